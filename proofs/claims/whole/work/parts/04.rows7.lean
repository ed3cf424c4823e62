set_option maxRecDepth 20000 in
theorem ggX7_init_X7_begin : GoodIn wsX7_init wsX7_begin := goodIn_r _ [32, 12, 13, 33, 34, 35, 36, 37, 38, 39, 40, 41, 42, 43, 44, 45, 46, 47, 48, 49, 50, 51, 52, 53, 54, 55, 56, 57, 58, 59, 60, 61, 62, 63, 64, 65, 66, 67] (by decide +kernel) (by decide +kernel)
set_option maxRecDepth 20000 in
theorem gX7_init_X7_begin : GoodIn wsX7_init (wsV RX7 80 RX7 yX7_begin wsX7_begin) := goodIn_app (goodIn_of _ (by decide +kernel)) ggX7_init_X7_begin
theorem dX7_init_0 : decode cX7_init 0 = .ok (.aload_n 0, 1) := by decide +kernel
theorem dX7_init_1 : decode cX7_init 1 = .ok (.invokespecial 1, 3) := by decide +kernel
theorem dX7_init_4 : decode cX7_init 4 = .ok (.aload_n 0, 1) := by decide +kernel
theorem dX7_init_5 : decode cX7_init 5 = .ok (.sipush 300, 3) := by decide +kernel
theorem dX7_init_8 : decode cX7_init 8 = .ok (.newarray .int, 2) := by decide +kernel
theorem dX7_init_10 : decode cX7_init 10 = .ok (.putfield 7, 3) := by decide +kernel
theorem dX7_init_13 : decode cX7_init 13 = .ok (.aload_n 0, 1) := by decide +kernel
theorem dX7_init_14 : decode cX7_init 14 = .ok (.iconst 3, 1) := by decide +kernel
theorem dX7_init_15 : decode cX7_init 15 = .ok (.newarray .int, 2) := by decide +kernel
theorem dX7_init_17 : decode cX7_init 17 = .ok (.putfield 13, 3) := by decide +kernel
theorem dX7_init_20 : decode cX7_init 20 = .ok (.aload_n 0, 1) := by decide +kernel
theorem dX7_init_21 : decode cX7_init 21 = .ok (.bipush 6, 2) := by decide +kernel
theorem dX7_init_23 : decode cX7_init 23 = .ok (.newarray .int, 2) := by decide +kernel
theorem dX7_init_25 : decode cX7_init 25 = .ok (.putfield 16, 3) := by decide +kernel
theorem dX7_init_28 : decode cX7_init 28 = .ok (.aload_n 0, 1) := by decide +kernel
theorem dX7_init_29 : decode cX7_init 29 = .ok (.bipush 6, 2) := by decide +kernel
theorem dX7_init_31 : decode cX7_init 31 = .ok (.newarray .int, 2) := by decide +kernel
theorem dX7_init_33 : decode cX7_init 33 = .ok (.putfield 19, 3) := by decide +kernel
theorem dX7_init_36 : decode cX7_init 36 = .ok (.aload_n 0, 1) := by decide +kernel
theorem dX7_init_37 : decode cX7_init 37 = .ok (.bipush 6, 2) := by decide +kernel
theorem dX7_init_39 : decode cX7_init 39 = .ok (.newarray .int, 2) := by decide +kernel
theorem dX7_init_41 : decode cX7_init 41 = .ok (.putfield 22, 3) := by decide +kernel
theorem dX7_init_44 : decode cX7_init 44 = .ok (.aload_n 0, 1) := by decide +kernel
theorem dX7_init_45 : decode cX7_init 45 = .ok (.bipush 12, 2) := by decide +kernel
theorem dX7_init_47 : decode cX7_init 47 = .ok (.newarray .int, 2) := by decide +kernel
theorem dX7_init_49 : decode cX7_init 49 = .ok (.putfield 25, 3) := by decide +kernel
theorem dX7_init_52 : decode cX7_init 52 = .ok (.aload_n 0, 1) := by decide +kernel
theorem dX7_init_53 : decode cX7_init 53 = .ok (.bipush 6, 2) := by decide +kernel
theorem dX7_init_55 : decode cX7_init 55 = .ok (.newarray .int, 2) := by decide +kernel
theorem dX7_init_57 : decode cX7_init 57 = .ok (.putfield 28, 3) := by decide +kernel
theorem dX7_init_60 : decode cX7_init 60 = .ok (.aload_n 0, 1) := by decide +kernel
theorem dX7_init_61 : decode cX7_init 61 = .ok (.bipush 6, 2) := by decide +kernel
theorem dX7_init_63 : decode cX7_init 63 = .ok (.newarray .int, 2) := by decide +kernel
theorem dX7_init_65 : decode cX7_init 65 = .ok (.putfield 31, 3) := by decide +kernel
theorem dX7_init_68 : decode cX7_init 68 = .ok (.aload_n 0, 1) := by decide +kernel
theorem dX7_init_69 : decode cX7_init 69 = .ok (.bipush 6, 2) := by decide +kernel
theorem dX7_init_71 : decode cX7_init 71 = .ok (.newarray .int, 2) := by decide +kernel
theorem dX7_init_73 : decode cX7_init 73 = .ok (.putfield 34, 3) := by decide +kernel
theorem dX7_init_76 : decode cX7_init 76 = .ok (.aload_n 0, 1) := by decide +kernel
theorem dX7_init_77 : decode cX7_init 77 = .ok (.bipush 12, 2) := by decide +kernel
theorem dX7_init_79 : decode cX7_init 79 = .ok (.newarray .int, 2) := by decide +kernel
theorem dX7_init_81 : decode cX7_init 81 = .ok (.putfield 37, 3) := by decide +kernel
theorem dX7_init_84 : decode cX7_init 84 = .ok (.aload_n 0, 1) := by decide +kernel
theorem dX7_init_85 : decode cX7_init 85 = .ok (.bipush 19, 2) := by decide +kernel
theorem dX7_init_87 : decode cX7_init 87 = .ok (.newarray .int, 2) := by decide +kernel
theorem dX7_init_89 : decode cX7_init 89 = .ok (.putfield 40, 3) := by decide +kernel
theorem dX7_init_92 : decode cX7_init 92 = .ok (.aload_n 0, 1) := by decide +kernel
theorem dX7_init_93 : decode cX7_init 93 = .ok (.bipush 19, 2) := by decide +kernel
theorem dX7_init_95 : decode cX7_init 95 = .ok (.newarray .int, 2) := by decide +kernel
theorem dX7_init_97 : decode cX7_init 97 = .ok (.putfield 43, 3) := by decide +kernel
theorem dX7_init_100 : decode cX7_init 100 = .ok (.aload_n 0, 1) := by decide +kernel
theorem dX7_init_101 : decode cX7_init 101 = .ok (.sipush 152, 3) := by decide +kernel
theorem dX7_init_104 : decode cX7_init 104 = .ok (.newarray .int, 2) := by decide +kernel
theorem dX7_init_106 : decode cX7_init 106 = .ok (.putfield 46, 3) := by decide +kernel
theorem dX7_init_109 : decode cX7_init 109 = .ok (.aload_n 0, 1) := by decide +kernel
theorem dX7_init_110 : decode cX7_init 110 = .ok (.bipush 38, 2) := by decide +kernel
theorem dX7_init_112 : decode cX7_init 112 = .ok (.newarray .int, 2) := by decide +kernel
theorem dX7_init_114 : decode cX7_init 114 = .ok (.putfield 49, 3) := by decide +kernel
theorem dX7_init_117 : decode cX7_init 117 = .ok (.aload_n 0, 1) := by decide +kernel
theorem dX7_init_118 : decode cX7_init 118 = .ok (.bipush 30, 2) := by decide +kernel
theorem dX7_init_120 : decode cX7_init 120 = .ok (.newarray .int, 2) := by decide +kernel
theorem dX7_init_122 : decode cX7_init 122 = .ok (.putfield 52, 3) := by decide +kernel
theorem dX7_init_125 : decode cX7_init 125 = .ok (.aload_n 0, 1) := by decide +kernel
theorem dX7_init_126 : decode cX7_init 126 = .ok (.iconst (-1), 1) := by decide +kernel
theorem dX7_init_127 : decode cX7_init 127 = .ok (.putfield 55, 3) := by decide +kernel
theorem dX7_init_130 : decode cX7_init 130 = .ok (.aload_n 0, 1) := by decide +kernel
theorem dX7_init_131 : decode cX7_init 131 = .ok (.iconst (-1), 1) := by decide +kernel
theorem dX7_init_132 : decode cX7_init 132 = .ok (.putfield 59, 3) := by decide +kernel
theorem dX7_init_135 : decode cX7_init 135 = .ok (.aload_n 0, 1) := by decide +kernel
theorem dX7_init_136 : decode cX7_init 136 = .ok (.iconst (-1), 1) := by decide +kernel
theorem dX7_init_137 : decode cX7_init 137 = .ok (.putfield 62, 3) := by decide +kernel
theorem dX7_init_140 : decode cX7_init 140 = .ok (.aload_n 0, 1) := by decide +kernel
theorem dX7_init_141 : decode cX7_init 141 = .ok (.bipush 6, 2) := by decide +kernel
theorem dX7_init_143 : decode cX7_init 143 = .ok (.newarray .int, 2) := by decide +kernel
theorem dX7_init_145 : decode cX7_init 145 = .ok (.putfield 65, 3) := by decide +kernel
theorem dX7_init_148 : decode cX7_init 148 = .ok (.aload_n 0, 1) := by decide +kernel
theorem dX7_init_149 : decode cX7_init 149 = .ok (.bipush 6, 2) := by decide +kernel
theorem dX7_init_151 : decode cX7_init 151 = .ok (.newarray .int, 2) := by decide +kernel
theorem dX7_init_153 : decode cX7_init 153 = .ok (.putfield 68, 3) := by decide +kernel
theorem dX7_init_156 : decode cX7_init 156 = .ok (.aload_n 0, 1) := by decide +kernel
theorem dX7_init_157 : decode cX7_init 157 = .ok (.iconst 3, 1) := by decide +kernel
theorem dX7_init_158 : decode cX7_init 158 = .ok (.putfield 71, 3) := by decide +kernel
theorem dX7_init_161 : decode cX7_init 161 = .ok (.aload_n 0, 1) := by decide +kernel
theorem dX7_init_162 : decode cX7_init 162 = .ok (.iconst 1, 1) := by decide +kernel
theorem dX7_init_163 : decode cX7_init 163 = .ok (.putfield 74, 3) := by decide +kernel
theorem dX7_init_166 : decode cX7_init 166 = .ok (.aload_n 0, 1) := by decide +kernel
theorem dX7_init_167 : decode cX7_init 167 = .ok (.iconst 1, 1) := by decide +kernel
theorem dX7_init_168 : decode cX7_init 168 = .ok (.putfield 77, 3) := by decide +kernel
theorem dX7_init_171 : decode cX7_init 171 = .ok (.aload_n 0, 1) := by decide +kernel
theorem dX7_init_172 : decode cX7_init 172 = .ok (.getfield 31, 3) := by decide +kernel
theorem dX7_init_175 : decode cX7_init 175 = .ok (.iconst 0, 1) := by decide +kernel
theorem dX7_init_176 : decode cX7_init 176 = .ok (.iconst 5, 1) := by decide +kernel
theorem dX7_init_177 : decode cX7_init 177 = .ok (.iastore, 1) := by decide +kernel
theorem dX7_init_178 : decode cX7_init 178 = .ok (.aload_n 0, 1) := by decide +kernel
theorem dX7_init_179 : decode cX7_init 179 = .ok (.getfield 34, 3) := by decide +kernel
theorem dX7_init_182 : decode cX7_init 182 = .ok (.iconst 0, 1) := by decide +kernel
theorem dX7_init_183 : decode cX7_init 183 = .ok (.iconst 1, 1) := by decide +kernel
theorem dX7_init_184 : decode cX7_init 184 = .ok (.iastore, 1) := by decide +kernel
theorem dX7_init_185 : decode cX7_init 185 = .ok (.aload_n 0, 1) := by decide +kernel
theorem dX7_init_186 : decode cX7_init 186 = .ok (.getfield 31, 3) := by decide +kernel
theorem dX7_init_189 : decode cX7_init 189 = .ok (.iconst 1, 1) := by decide +kernel
theorem dX7_init_190 : decode cX7_init 190 = .ok (.bipush 9, 2) := by decide +kernel
theorem dX7_init_192 : decode cX7_init 192 = .ok (.iastore, 1) := by decide +kernel
theorem dX7_init_193 : decode cX7_init 193 = .ok (.aload_n 0, 1) := by decide +kernel
theorem dX7_init_194 : decode cX7_init 194 = .ok (.aload_n 0, 1) := by decide +kernel
theorem dX7_init_195 : decode cX7_init 195 = .ok (.getfield 40, 3) := by decide +kernel
theorem dX7_init_198 : decode cX7_init 198 = .ok (.invokevirtual 80, 3) := by decide +kernel
theorem dX7_init_201 : decode cX7_init 201 = .ok (.return_, 1) := by decide +kernel
theorem dX7_in_0 : decode cX7_in 0 = .ok (.iload_n 0, 1) := by decide +kernel
theorem dX7_in_1 : decode cX7_in 1 = .ok (.iload_n 1, 1) := by decide +kernel
theorem dX7_in_2 : decode cX7_in 2 = .ok (.if_icmp .lt 12, 3) := by decide +kernel
theorem dX7_in_5 : decode cX7_in 5 = .ok (.iload_n 0, 1) := by decide +kernel
theorem dX7_in_6 : decode cX7_in 6 = .ok (.iload_n 2, 1) := by decide +kernel
theorem dX7_in_7 : decode cX7_in 7 = .ok (.if_icmp .gt 7, 3) := by decide +kernel
theorem dX7_in_10 : decode cX7_in 10 = .ok (.iconst 1, 1) := by decide +kernel
theorem dX7_in_11 : decode cX7_in 11 = .ok (.goto 4, 3) := by decide +kernel
theorem dX7_in_14 : decode cX7_in 14 = .ok (.iconst 0, 1) := by decide +kernel
theorem dX7_in_15 : decode cX7_in 15 = .ok (.ireturn, 1) := by decide +kernel
theorem dX7_has_0 : decode cX7_has 0 = .ok (.iload_n 0, 1) := by decide +kernel
theorem dX7_has_1 : decode cX7_has 1 = .ok (.iload_n 1, 1) := by decide +kernel
theorem dX7_has_2 : decode cX7_has 2 = .ok (.ishr, 1) := by decide +kernel
theorem dX7_has_3 : decode cX7_has 3 = .ok (.iconst 1, 1) := by decide +kernel
theorem dX7_has_4 : decode cX7_has 4 = .ok (.iand, 1) := by decide +kernel
theorem dX7_has_5 : decode cX7_has 5 = .ok (.iconst 1, 1) := by decide +kernel
theorem dX7_has_6 : decode cX7_has 6 = .ok (.if_icmp .ne 7, 3) := by decide +kernel
theorem dX7_has_9 : decode cX7_has 9 = .ok (.iconst 1, 1) := by decide +kernel
theorem dX7_has_10 : decode cX7_has 10 = .ok (.goto 4, 3) := by decide +kernel
theorem dX7_has_13 : decode cX7_has 13 = .ok (.iconst 0, 1) := by decide +kernel
theorem dX7_has_14 : decode cX7_has 14 = .ok (.ireturn, 1) := by decide +kernel
set_option maxRecDepth 20000 in
theorem ggX7_isMan_X7_in : GoodIn wsX7_isMan wsX7_in := goodIn_r _ [5] (by decide +kernel) (by decide +kernel)
set_option maxRecDepth 20000 in
theorem gX7_isMan_X7_in : GoodIn wsX7_isMan (va_wsS RX7 84 yX7_in wsX7_in) := goodIn_app (goodIn_of _ (by decide +kernel)) ggX7_isMan_X7_in
theorem dX7_isMan_0 : decode cX7_isMan 0 = .ok (.iload_n 1, 1) := by decide +kernel
theorem dX7_isMan_1 : decode cX7_isMan 1 = .ok (.iconst 0, 1) := by decide +kernel
theorem dX7_isMan_2 : decode cX7_isMan 2 = .ok (.aload_n 0, 1) := by decide +kernel
theorem dX7_isMan_3 : decode cX7_isMan 3 = .ok (.getfield 71, 3) := by decide +kernel
theorem dX7_isMan_6 : decode cX7_isMan 6 = .ok (.iconst 1, 1) := by decide +kernel
theorem dX7_isMan_7 : decode cX7_isMan 7 = .ok (.isub, 1) := by decide +kernel
theorem dX7_isMan_8 : decode cX7_isMan 8 = .ok (.invokestatic 84, 3) := by decide +kernel
theorem dX7_isMan_11 : decode cX7_isMan 11 = .ok (.ireturn, 1) := by decide +kernel
theorem dX7_begin_0 : decode cX7_begin 0 = .ok (.iconst 0, 1) := by decide +kernel
theorem dX7_begin_1 : decode cX7_begin 1 = .ok (.istore_n 2, 1) := by decide +kernel
theorem dX7_begin_2 : decode cX7_begin 2 = .ok (.iload_n 2, 1) := by decide +kernel
theorem dX7_begin_3 : decode cX7_begin 3 = .ok (.bipush 6, 2) := by decide +kernel
theorem dX7_begin_5 : decode cX7_begin 5 = .ok (.if_icmp .ge 50, 3) := by decide +kernel
theorem dX7_begin_8 : decode cX7_begin 8 = .ok (.aload_n 1, 1) := by decide +kernel
theorem dX7_begin_9 : decode cX7_begin 9 = .ok (.iload_n 2, 1) := by decide +kernel
theorem dX7_begin_10 : decode cX7_begin 10 = .ok (.iload_n 2, 1) := by decide +kernel
theorem dX7_begin_11 : decode cX7_begin 11 = .ok (.iastore, 1) := by decide +kernel
theorem dX7_begin_12 : decode cX7_begin 12 = .ok (.aload_n 1, 1) := by decide +kernel
theorem dX7_begin_13 : decode cX7_begin 13 = .ok (.bipush 6, 2) := by decide +kernel
theorem dX7_begin_15 : decode cX7_begin 15 = .ok (.iload_n 2, 1) := by decide +kernel
theorem dX7_begin_16 : decode cX7_begin 16 = .ok (.iadd, 1) := by decide +kernel
theorem dX7_begin_17 : decode cX7_begin 17 = .ok (.aload_n 0, 1) := by decide +kernel
theorem dX7_begin_18 : decode cX7_begin 18 = .ok (.getfield 31, 3) := by decide +kernel
theorem dX7_begin_21 : decode cX7_begin 21 = .ok (.iload_n 2, 1) := by decide +kernel
theorem dX7_begin_22 : decode cX7_begin 22 = .ok (.iaload, 1) := by decide +kernel
theorem dX7_begin_23 : decode cX7_begin 23 = .ok (.ifCond .ge 7, 3) := by decide +kernel
theorem dX7_begin_26 : decode cX7_begin 26 = .ok (.iconst 0, 1) := by decide +kernel
theorem dX7_begin_27 : decode cX7_begin 27 = .ok (.goto 9, 3) := by decide +kernel
theorem dX7_begin_30 : decode cX7_begin 30 = .ok (.aload_n 0, 1) := by decide +kernel
theorem dX7_begin_31 : decode cX7_begin 31 = .ok (.getfield 31, 3) := by decide +kernel
theorem dX7_begin_34 : decode cX7_begin 34 = .ok (.iload_n 2, 1) := by decide +kernel
theorem dX7_begin_35 : decode cX7_begin 35 = .ok (.iaload, 1) := by decide +kernel
theorem dX7_begin_36 : decode cX7_begin 36 = .ok (.iastore, 1) := by decide +kernel
theorem dX7_begin_37 : decode cX7_begin 37 = .ok (.aload_n 1, 1) := by decide +kernel
theorem dX7_begin_38 : decode cX7_begin 38 = .ok (.bipush 12, 2) := by decide +kernel
theorem dX7_begin_40 : decode cX7_begin 40 = .ok (.iload_n 2, 1) := by decide +kernel
theorem dX7_begin_41 : decode cX7_begin 41 = .ok (.iadd, 1) := by decide +kernel
theorem dX7_begin_42 : decode cX7_begin 42 = .ok (.aload_n 0, 1) := by decide +kernel
theorem dX7_begin_43 : decode cX7_begin 43 = .ok (.getfield 34, 3) := by decide +kernel
theorem dX7_begin_46 : decode cX7_begin 46 = .ok (.iload_n 2, 1) := by decide +kernel
theorem dX7_begin_47 : decode cX7_begin 47 = .ok (.iaload, 1) := by decide +kernel
theorem dX7_begin_48 : decode cX7_begin 48 = .ok (.iastore, 1) := by decide +kernel
theorem dX7_begin_49 : decode cX7_begin 49 = .ok (.iinc 2 1, 3) := by decide +kernel
theorem dX7_begin_52 : decode cX7_begin 52 = .ok (.goto (-50), 3) := by decide +kernel
theorem dX7_begin_55 : decode cX7_begin 55 = .ok (.aload_n 1, 1) := by decide +kernel
theorem dX7_begin_56 : decode cX7_begin 56 = .ok (.bipush 18, 2) := by decide +kernel
theorem dX7_begin_58 : decode cX7_begin 58 = .ok (.iconst 0, 1) := by decide +kernel
theorem dX7_begin_59 : decode cX7_begin 59 = .ok (.iastore, 1) := by decide +kernel
theorem dX7_begin_60 : decode cX7_begin 60 = .ok (.return_, 1) := by decide +kernel
set_option maxRecDepth 20000 in
theorem ggX7_write_X7_in : GoodIn wsX7_write wsX7_in := goodIn_r _ [7] (by decide +kernel) (by decide +kernel)
set_option maxRecDepth 20000 in
theorem gX7_write_X7_in : GoodIn wsX7_write (va_wsS RX7 84 yX7_in wsX7_in) := goodIn_app (goodIn_of _ (by decide +kernel)) ggX7_write_X7_in
theorem dX7_write_0 : decode cX7_write 0 = .ok (.iload_n 1, 1) := by decide +kernel
theorem dX7_write_1 : decode cX7_write 1 = .ok (.iconst 1, 1) := by decide +kernel
theorem dX7_write_2 : decode cX7_write 2 = .ok (.bipush 8, 2) := by decide +kernel
theorem dX7_write_4 : decode cX7_write 4 = .ok (.invokestatic 84, 3) := by decide +kernel
theorem dX7_write_7 : decode cX7_write 7 = .ok (.ifCond .ne 5, 3) := by decide +kernel
theorem dX7_write_10 : decode cX7_write 10 = .ok (.iconst (-1), 1) := by decide +kernel
theorem dX7_write_11 : decode cX7_write 11 = .ok (.ireturn, 1) := by decide +kernel
theorem dX7_write_12 : decode cX7_write 12 = .ok (.aload_n 0, 1) := by decide +kernel
theorem dX7_write_13 : decode cX7_write 13 = .ok (.getfield 88, 3) := by decide +kernel
theorem dX7_write_16 : decode cX7_write 16 = .ok (.iload_n 1, 1) := by decide +kernel
theorem dX7_write_17 : decode cX7_write 17 = .ok (.iadd, 1) := by decide +kernel
theorem dX7_write_18 : decode cX7_write 18 = .ok (.sipush 300, 3) := by decide +kernel
theorem dX7_write_21 : decode cX7_write 21 = .ok (.if_icmp .le 6, 3) := by decide +kernel
theorem dX7_write_24 : decode cX7_write 24 = .ok (.bipush (-3), 2) := by decide +kernel
theorem dX7_write_26 : decode cX7_write 26 = .ok (.ireturn, 1) := by decide +kernel
theorem dX7_write_27 : decode cX7_write 27 = .ok (.iconst 0, 1) := by decide +kernel
theorem dX7_write_28 : decode cX7_write 28 = .ok (.istore 4, 2) := by decide +kernel
theorem dX7_write_30 : decode cX7_write 30 = .ok (.iload 4, 2) := by decide +kernel
theorem dX7_write_32 : decode cX7_write 32 = .ok (.iload_n 1, 1) := by decide +kernel
theorem dX7_write_33 : decode cX7_write 33 = .ok (.if_icmp .ge 37, 3) := by decide +kernel
theorem dX7_write_36 : decode cX7_write 36 = .ok (.aload_n 0, 1) := by decide +kernel
theorem dX7_write_37 : decode cX7_write 37 = .ok (.getfield 7, 3) := by decide +kernel
theorem dX7_write_40 : decode cX7_write 40 = .ok (.aload_n 0, 1) := by decide +kernel
theorem dX7_write_41 : decode cX7_write 41 = .ok (.getfield 88, 3) := by decide +kernel
theorem dX7_write_44 : decode cX7_write 44 = .ok (.iload 4, 2) := by decide +kernel
theorem dX7_write_46 : decode cX7_write 46 = .ok (.iadd, 1) := by decide +kernel
theorem dX7_write_47 : decode cX7_write 47 = .ok (.lload_n 2, 1) := by decide +kernel
theorem dX7_write_48 : decode cX7_write 48 = .ok (.bipush 8, 2) := by decide +kernel
theorem dX7_write_50 : decode cX7_write 50 = .ok (.iload_n 1, 1) := by decide +kernel
theorem dX7_write_51 : decode cX7_write 51 = .ok (.iconst 1, 1) := by decide +kernel
theorem dX7_write_52 : decode cX7_write 52 = .ok (.isub, 1) := by decide +kernel
theorem dX7_write_53 : decode cX7_write 53 = .ok (.iload 4, 2) := by decide +kernel
theorem dX7_write_55 : decode cX7_write 55 = .ok (.isub, 1) := by decide +kernel
theorem dX7_write_56 : decode cX7_write 56 = .ok (.imul, 1) := by decide +kernel
theorem dX7_write_57 : decode cX7_write 57 = .ok (.lshr, 1) := by decide +kernel
theorem dX7_write_58 : decode cX7_write 58 = .ok (.ldc2_w 91, 3) := by decide +kernel
theorem dX7_write_61 : decode cX7_write 61 = .ok (.land, 1) := by decide +kernel
theorem dX7_write_62 : decode cX7_write 62 = .ok (.l2i, 1) := by decide +kernel
theorem dX7_write_63 : decode cX7_write 63 = .ok (.iastore, 1) := by decide +kernel
theorem dX7_write_64 : decode cX7_write 64 = .ok (.iinc 4 1, 3) := by decide +kernel
theorem dX7_write_67 : decode cX7_write 67 = .ok (.goto (-37), 3) := by decide +kernel
theorem dX7_write_70 : decode cX7_write 70 = .ok (.aload_n 0, 1) := by decide +kernel
theorem dX7_write_71 : decode cX7_write 71 = .ok (.dup, 1) := by decide +kernel
theorem dX7_write_72 : decode cX7_write 72 = .ok (.getfield 88, 3) := by decide +kernel
theorem dX7_write_75 : decode cX7_write 75 = .ok (.iload_n 1, 1) := by decide +kernel
theorem dX7_write_76 : decode cX7_write 76 = .ok (.iadd, 1) := by decide +kernel
theorem dX7_write_77 : decode cX7_write 77 = .ok (.putfield 88, 3) := by decide +kernel
theorem dX7_write_80 : decode cX7_write 80 = .ok (.aload_n 0, 1) := by decide +kernel
theorem dX7_write_81 : decode cX7_write 81 = .ok (.getfield 88, 3) := by decide +kernel
theorem dX7_write_84 : decode cX7_write 84 = .ok (.ireturn, 1) := by decide +kernel
theorem dX7_wipe_0 : decode cX7_wipe 0 = .ok (.aload_n 0, 1) := by decide +kernel
theorem dX7_wipe_1 : decode cX7_wipe 1 = .ok (.getfield 88, 3) := by decide +kernel
theorem dX7_wipe_4 : decode cX7_wipe 4 = .ok (.istore_n 1, 1) := by decide +kernel
theorem dX7_wipe_5 : decode cX7_wipe 5 = .ok (.aload_n 0, 1) := by decide +kernel
theorem dX7_wipe_6 : decode cX7_wipe 6 = .ok (.iconst 0, 1) := by decide +kernel
theorem dX7_wipe_7 : decode cX7_wipe 7 = .ok (.putfield 88, 3) := by decide +kernel
theorem dX7_wipe_10 : decode cX7_wipe 10 = .ok (.iload_n 1, 1) := by decide +kernel
theorem dX7_wipe_11 : decode cX7_wipe 11 = .ok (.ireturn, 1) := by decide +kernel
set_option maxRecDepth 20000 in
theorem ggX7_areNumbers_X7_in : GoodIn wsX7_areNumbers wsX7_in := goodIn_r _ [8] (by decide +kernel) (by decide +kernel)
set_option maxRecDepth 20000 in
theorem gX7_areNumbers_X7_in : GoodIn wsX7_areNumbers (va_wsS RX7 84 yX7_in wsX7_in) := goodIn_app (goodIn_of _ (by decide +kernel)) ggX7_areNumbers_X7_in
theorem dX7_areNumbers_0 : decode cX7_areNumbers 0 = .ok (.iconst 0, 1) := by decide +kernel
theorem dX7_areNumbers_1 : decode cX7_areNumbers 1 = .ok (.istore_n 2, 1) := by decide +kernel
theorem dX7_areNumbers_2 : decode cX7_areNumbers 2 = .ok (.iload_n 2, 1) := by decide +kernel
theorem dX7_areNumbers_3 : decode cX7_areNumbers 3 = .ok (.iload_n 1, 1) := by decide +kernel
theorem dX7_areNumbers_4 : decode cX7_areNumbers 4 = .ok (.if_icmp .ge 175, 3) := by decide +kernel
theorem dX7_areNumbers_7 : decode cX7_areNumbers 7 = .ok (.aload_n 0, 1) := by decide +kernel
theorem dX7_areNumbers_8 : decode cX7_areNumbers 8 = .ok (.getfield 93, 3) := by decide +kernel
theorem dX7_areNumbers_11 : decode cX7_areNumbers 11 = .ok (.istore_n 3, 1) := by decide +kernel
theorem dX7_areNumbers_12 : decode cX7_areNumbers 12 = .ok (.aload_n 0, 1) := by decide +kernel
theorem dX7_areNumbers_13 : decode cX7_areNumbers 13 = .ok (.getfield 13, 3) := by decide +kernel
theorem dX7_areNumbers_16 : decode cX7_areNumbers 16 = .ok (.iload_n 2, 1) := by decide +kernel
theorem dX7_areNumbers_17 : decode cX7_areNumbers 17 = .ok (.iconst 0, 1) := by decide +kernel
theorem dX7_areNumbers_18 : decode cX7_areNumbers 18 = .ok (.iastore, 1) := by decide +kernel
theorem dX7_areNumbers_19 : decode cX7_areNumbers 19 = .ok (.aload_n 0, 1) := by decide +kernel
theorem dX7_areNumbers_20 : decode cX7_areNumbers 20 = .ok (.getfield 93, 3) := by decide +kernel
theorem dX7_areNumbers_23 : decode cX7_areNumbers 23 = .ok (.aload_n 0, 1) := by decide +kernel
theorem dX7_areNumbers_24 : decode cX7_areNumbers 24 = .ok (.getfield 88, 3) := by decide +kernel
theorem dX7_areNumbers_27 : decode cX7_areNumbers 27 = .ok (.if_icmp .ge 79, 3) := by decide +kernel
theorem dX7_areNumbers_30 : decode cX7_areNumbers 30 = .ok (.aload_n 0, 1) := by decide +kernel
theorem dX7_areNumbers_31 : decode cX7_areNumbers 31 = .ok (.getfield 7, 3) := by decide +kernel
theorem dX7_areNumbers_34 : decode cX7_areNumbers 34 = .ok (.aload_n 0, 1) := by decide +kernel
theorem dX7_areNumbers_35 : decode cX7_areNumbers 35 = .ok (.getfield 93, 3) := by decide +kernel
theorem dX7_areNumbers_38 : decode cX7_areNumbers 38 = .ok (.iaload, 1) := by decide +kernel
theorem dX7_areNumbers_39 : decode cX7_areNumbers 39 = .ok (.bipush 48, 2) := by decide +kernel
theorem dX7_areNumbers_41 : decode cX7_areNumbers 41 = .ok (.bipush 57, 2) := by decide +kernel
theorem dX7_areNumbers_43 : decode cX7_areNumbers 43 = .ok (.invokestatic 84, 3) := by decide +kernel
theorem dX7_areNumbers_46 : decode cX7_areNumbers 46 = .ok (.ifCond .eq 60, 3) := by decide +kernel
theorem dX7_areNumbers_49 : decode cX7_areNumbers 49 = .ok (.aload_n 0, 1) := by decide +kernel
theorem dX7_areNumbers_50 : decode cX7_areNumbers 50 = .ok (.getfield 13, 3) := by decide +kernel
theorem dX7_areNumbers_53 : decode cX7_areNumbers 53 = .ok (.iload_n 2, 1) := by decide +kernel
theorem dX7_areNumbers_54 : decode cX7_areNumbers 54 = .ok (.aload_n 0, 1) := by decide +kernel
theorem dX7_areNumbers_55 : decode cX7_areNumbers 55 = .ok (.getfield 93, 3) := by decide +kernel
theorem dX7_areNumbers_58 : decode cX7_areNumbers 58 = .ok (.iload_n 3, 1) := by decide +kernel
theorem dX7_areNumbers_59 : decode cX7_areNumbers 59 = .ok (.isub, 1) := by decide +kernel
theorem dX7_areNumbers_60 : decode cX7_areNumbers 60 = .ok (.iconst 2, 1) := by decide +kernel
theorem dX7_areNumbers_61 : decode cX7_areNumbers 61 = .ok (.if_icmp .ge 28, 3) := by decide +kernel
theorem dX7_areNumbers_64 : decode cX7_areNumbers 64 = .ok (.bipush 10, 2) := by decide +kernel
theorem dX7_areNumbers_66 : decode cX7_areNumbers 66 = .ok (.aload_n 0, 1) := by decide +kernel
theorem dX7_areNumbers_67 : decode cX7_areNumbers 67 = .ok (.getfield 13, 3) := by decide +kernel
theorem dX7_areNumbers_70 : decode cX7_areNumbers 70 = .ok (.iload_n 2, 1) := by decide +kernel
theorem dX7_areNumbers_71 : decode cX7_areNumbers 71 = .ok (.iaload, 1) := by decide +kernel
theorem dX7_areNumbers_72 : decode cX7_areNumbers 72 = .ok (.imul, 1) := by decide +kernel
theorem dX7_areNumbers_73 : decode cX7_areNumbers 73 = .ok (.aload_n 0, 1) := by decide +kernel
theorem dX7_areNumbers_74 : decode cX7_areNumbers 74 = .ok (.getfield 7, 3) := by decide +kernel
theorem dX7_areNumbers_77 : decode cX7_areNumbers 77 = .ok (.aload_n 0, 1) := by decide +kernel
theorem dX7_areNumbers_78 : decode cX7_areNumbers 78 = .ok (.getfield 93, 3) := by decide +kernel
theorem dX7_areNumbers_81 : decode cX7_areNumbers 81 = .ok (.iaload, 1) := by decide +kernel
theorem dX7_areNumbers_82 : decode cX7_areNumbers 82 = .ok (.iadd, 1) := by decide +kernel
theorem dX7_areNumbers_83 : decode cX7_areNumbers 83 = .ok (.bipush 48, 2) := by decide +kernel
theorem dX7_areNumbers_85 : decode cX7_areNumbers 85 = .ok (.isub, 1) := by decide +kernel
theorem dX7_areNumbers_86 : decode cX7_areNumbers 86 = .ok (.goto 6, 3) := by decide +kernel
theorem dX7_areNumbers_89 : decode cX7_areNumbers 89 = .ok (.sipush 1000, 3) := by decide +kernel
theorem dX7_areNumbers_92 : decode cX7_areNumbers 92 = .ok (.iastore, 1) := by decide +kernel
theorem dX7_areNumbers_93 : decode cX7_areNumbers 93 = .ok (.aload_n 0, 1) := by decide +kernel
theorem dX7_areNumbers_94 : decode cX7_areNumbers 94 = .ok (.dup, 1) := by decide +kernel
theorem dX7_areNumbers_95 : decode cX7_areNumbers 95 = .ok (.getfield 93, 3) := by decide +kernel
theorem dX7_areNumbers_98 : decode cX7_areNumbers 98 = .ok (.iconst 1, 1) := by decide +kernel
theorem dX7_areNumbers_99 : decode cX7_areNumbers 99 = .ok (.iadd, 1) := by decide +kernel
theorem dX7_areNumbers_100 : decode cX7_areNumbers 100 = .ok (.putfield 93, 3) := by decide +kernel
theorem dX7_areNumbers_103 : decode cX7_areNumbers 103 = .ok (.goto (-84), 3) := by decide +kernel
theorem dX7_areNumbers_106 : decode cX7_areNumbers 106 = .ok (.aload_n 0, 1) := by decide +kernel
theorem dX7_areNumbers_107 : decode cX7_areNumbers 107 = .ok (.getfield 93, 3) := by decide +kernel
theorem dX7_areNumbers_110 : decode cX7_areNumbers 110 = .ok (.iload_n 3, 1) := by decide +kernel
theorem dX7_areNumbers_111 : decode cX7_areNumbers 111 = .ok (.if_icmp .eq 50, 3) := by decide +kernel
theorem dX7_areNumbers_114 : decode cX7_areNumbers 114 = .ok (.aload_n 0, 1) := by decide +kernel
theorem dX7_areNumbers_115 : decode cX7_areNumbers 115 = .ok (.getfield 93, 3) := by decide +kernel
theorem dX7_areNumbers_118 : decode cX7_areNumbers 118 = .ok (.iload_n 3, 1) := by decide +kernel
theorem dX7_areNumbers_119 : decode cX7_areNumbers 119 = .ok (.isub, 1) := by decide +kernel
theorem dX7_areNumbers_120 : decode cX7_areNumbers 120 = .ok (.iconst 2, 1) := by decide +kernel
theorem dX7_areNumbers_121 : decode cX7_areNumbers 121 = .ok (.if_icmp .gt 40, 3) := by decide +kernel
theorem dX7_areNumbers_124 : decode cX7_areNumbers 124 = .ok (.aload_n 0, 1) := by decide +kernel
theorem dX7_areNumbers_125 : decode cX7_areNumbers 125 = .ok (.getfield 93, 3) := by decide +kernel
theorem dX7_areNumbers_128 : decode cX7_areNumbers 128 = .ok (.aload_n 0, 1) := by decide +kernel
theorem dX7_areNumbers_129 : decode cX7_areNumbers 129 = .ok (.getfield 88, 3) := by decide +kernel
theorem dX7_areNumbers_132 : decode cX7_areNumbers 132 = .ok (.if_icmp .eq 29, 3) := by decide +kernel
theorem dX7_areNumbers_135 : decode cX7_areNumbers 135 = .ok (.aload_n 0, 1) := by decide +kernel
theorem dX7_areNumbers_136 : decode cX7_areNumbers 136 = .ok (.getfield 7, 3) := by decide +kernel
theorem dX7_areNumbers_139 : decode cX7_areNumbers 139 = .ok (.aload_n 0, 1) := by decide +kernel
theorem dX7_areNumbers_140 : decode cX7_areNumbers 140 = .ok (.getfield 93, 3) := by decide +kernel
theorem dX7_areNumbers_143 : decode cX7_areNumbers 143 = .ok (.iaload, 1) := by decide +kernel
theorem dX7_areNumbers_144 : decode cX7_areNumbers 144 = .ok (.iload_n 2, 1) := by decide +kernel
theorem dX7_areNumbers_145 : decode cX7_areNumbers 145 = .ok (.iload_n 1, 1) := by decide +kernel
theorem dX7_areNumbers_146 : decode cX7_areNumbers 146 = .ok (.iconst 1, 1) := by decide +kernel
theorem dX7_areNumbers_147 : decode cX7_areNumbers 147 = .ok (.isub, 1) := by decide +kernel
theorem dX7_areNumbers_148 : decode cX7_areNumbers 148 = .ok (.if_icmp .ne 8, 3) := by decide +kernel
theorem dX7_areNumbers_151 : decode cX7_areNumbers 151 = .ok (.bipush 59, 2) := by decide +kernel
theorem dX7_areNumbers_153 : decode cX7_areNumbers 153 = .ok (.goto 5, 3) := by decide +kernel
theorem dX7_areNumbers_156 : decode cX7_areNumbers 156 = .ok (.bipush 44, 2) := by decide +kernel
theorem dX7_areNumbers_158 : decode cX7_areNumbers 158 = .ok (.if_icmp .eq 5, 3) := by decide +kernel
theorem dX7_areNumbers_161 : decode cX7_areNumbers 161 = .ok (.iconst 0, 1) := by decide +kernel
theorem dX7_areNumbers_162 : decode cX7_areNumbers 162 = .ok (.ireturn, 1) := by decide +kernel
theorem dX7_areNumbers_163 : decode cX7_areNumbers 163 = .ok (.aload_n 0, 1) := by decide +kernel
theorem dX7_areNumbers_164 : decode cX7_areNumbers 164 = .ok (.dup, 1) := by decide +kernel
theorem dX7_areNumbers_165 : decode cX7_areNumbers 165 = .ok (.getfield 93, 3) := by decide +kernel
theorem dX7_areNumbers_168 : decode cX7_areNumbers 168 = .ok (.iconst 1, 1) := by decide +kernel
theorem dX7_areNumbers_169 : decode cX7_areNumbers 169 = .ok (.iadd, 1) := by decide +kernel
theorem dX7_areNumbers_170 : decode cX7_areNumbers 170 = .ok (.putfield 93, 3) := by decide +kernel
theorem dX7_areNumbers_173 : decode cX7_areNumbers 173 = .ok (.iinc 2 1, 3) := by decide +kernel
theorem dX7_areNumbers_176 : decode cX7_areNumbers 176 = .ok (.goto (-174), 3) := by decide +kernel
theorem dX7_areNumbers_179 : decode cX7_areNumbers 179 = .ok (.iconst 1, 1) := by decide +kernel
theorem dX7_areNumbers_180 : decode cX7_areNumbers 180 = .ok (.ireturn, 1) := by decide +kernel
set_option maxRecDepth 20000 in
theorem ggX7_isLantern_X7_in : GoodIn wsX7_isLantern wsX7_in := goodIn_r _ [6] (by decide +kernel) (by decide +kernel)
set_option maxRecDepth 20000 in
theorem gX7_isLantern_X7_in : GoodIn wsX7_isLantern (va_wsS RX7 84 yX7_in wsX7_in) := goodIn_app (goodIn_of _ (by decide +kernel)) ggX7_isLantern_X7_in
theorem dX7_isLantern_0 : decode cX7_isLantern 0 = .ok (.aload_n 0, 1) := by decide +kernel
theorem dX7_isLantern_1 : decode cX7_isLantern 1 = .ok (.getfield 13, 3) := by decide +kernel
theorem dX7_isLantern_4 : decode cX7_isLantern 4 = .ok (.iconst 0, 1) := by decide +kernel
theorem dX7_isLantern_5 : decode cX7_isLantern 5 = .ok (.iaload, 1) := by decide +kernel
theorem dX7_isLantern_6 : decode cX7_isLantern 6 = .ok (.iconst 0, 1) := by decide +kernel
theorem dX7_isLantern_7 : decode cX7_isLantern 7 = .ok (.aload_n 0, 1) := by decide +kernel
theorem dX7_isLantern_8 : decode cX7_isLantern 8 = .ok (.getfield 96, 3) := by decide +kernel
theorem dX7_isLantern_11 : decode cX7_isLantern 11 = .ok (.iconst 1, 1) := by decide +kernel
theorem dX7_isLantern_12 : decode cX7_isLantern 12 = .ok (.isub, 1) := by decide +kernel
theorem dX7_isLantern_13 : decode cX7_isLantern 13 = .ok (.invokestatic 84, 3) := by decide +kernel
theorem dX7_isLantern_16 : decode cX7_isLantern 16 = .ok (.ireturn, 1) := by decide +kernel
set_option maxRecDepth 20000 in
theorem ggX7_isItem_X7_areNumbers : GoodIn wsX7_isItem wsX7_areNumbers := goodIn_r _ [17, 2, 3, 18, 1, 19, 20, 16, 21, 26, 27, 28, 29, 30, 31, 32, 33, 34, 35, 36, 37, 38, 39, 40, 41, 42, 43, 44, 45, 46, 47, 48, 49, 50, 51, 52, 53, 54, 55, 56, 57, 58, 59, 60] (by decide +kernel) (by decide +kernel)
set_option maxRecDepth 20000 in
theorem gX7_isItem_X7_areNumbers : GoodIn wsX7_isItem (wsV RX7 99 RX7 yX7_areNumbers wsX7_areNumbers) := goodIn_app (goodIn_of _ (by decide +kernel)) ggX7_isItem_X7_areNumbers
set_option maxRecDepth 20000 in
theorem ggX7_isItem_X7_in : GoodIn wsX7_isItem wsX7_in := goodIn_r _ [21] (by decide +kernel) (by decide +kernel)
set_option maxRecDepth 20000 in
theorem gX7_isItem_X7_in : GoodIn wsX7_isItem (va_wsS RX7 84 yX7_in wsX7_in) := goodIn_app (goodIn_of _ (by decide +kernel)) ggX7_isItem_X7_in
set_option maxRecDepth 20000 in
theorem ggX7_isItem_X7_isLantern : GoodIn wsX7_isItem wsX7_isLantern := goodIn_r _ [25, 3, 4, 19, 20, 16, 21, 26, 27, 28, 29, 30, 31, 32, 33, 34, 35, 36, 37, 38, 39, 40, 41, 42, 43, 44, 45, 46, 47, 48, 49, 50, 51, 52, 53, 54, 55, 56, 57, 58, 59, 60] (by decide +kernel) (by decide +kernel)
set_option maxRecDepth 20000 in
theorem gX7_isItem_X7_isLantern : GoodIn wsX7_isItem (wsV RX7 103 RX7 yX7_isLantern wsX7_isLantern) := goodIn_app (goodIn_of _ (by decide +kernel)) ggX7_isItem_X7_isLantern
theorem dX7_isItem_0 : decode cX7_isItem 0 = .ok (.aload_n 0, 1) := by decide +kernel
theorem dX7_isItem_1 : decode cX7_isItem 1 = .ok (.getfield 7, 3) := by decide +kernel
theorem dX7_isItem_4 : decode cX7_isItem 4 = .ok (.aload_n 0, 1) := by decide +kernel
theorem dX7_isItem_5 : decode cX7_isItem 5 = .ok (.getfield 93, 3) := by decide +kernel
theorem dX7_isItem_8 : decode cX7_isItem 8 = .ok (.iaload, 1) := by decide +kernel
theorem dX7_isItem_9 : decode cX7_isItem 9 = .ok (.istore_n 1, 1) := by decide +kernel
theorem dX7_isItem_10 : decode cX7_isItem 10 = .ok (.aload_n 0, 1) := by decide +kernel
theorem dX7_isItem_11 : decode cX7_isItem 11 = .ok (.dup, 1) := by decide +kernel
theorem dX7_isItem_12 : decode cX7_isItem 12 = .ok (.getfield 93, 3) := by decide +kernel
theorem dX7_isItem_15 : decode cX7_isItem 15 = .ok (.iconst 1, 1) := by decide +kernel
theorem dX7_isItem_16 : decode cX7_isItem 16 = .ok (.iadd, 1) := by decide +kernel
theorem dX7_isItem_17 : decode cX7_isItem 17 = .ok (.putfield 93, 3) := by decide +kernel
theorem dX7_isItem_20 : decode cX7_isItem 20 = .ok (.iload_n 1, 1) := by decide +kernel
theorem dX7_isItem_21 : decode cX7_isItem 21 = .ok (.tableswitch 503 100 117 #[341, 262, 503, 503, 503, 503, 503, 503, 503, 87, 503, 167, 503, 503, 503, 305, 503, 437], 87) := by decide +kernel
theorem dX7_isItem_108 : decode cX7_isItem 108 = .ok (.aload_n 0, 1) := by decide +kernel
theorem dX7_isItem_109 : decode cX7_isItem 109 = .ok (.iconst 1, 1) := by decide +kernel
theorem dX7_isItem_110 : decode cX7_isItem 110 = .ok (.invokevirtual 99, 3) := by decide +kernel
theorem dX7_isItem_113 : decode cX7_isItem 113 = .ok (.ifCond .eq 26, 3) := by decide +kernel
theorem dX7_isItem_116 : decode cX7_isItem 116 = .ok (.aload_n 0, 1) := by decide +kernel
theorem dX7_isItem_117 : decode cX7_isItem 117 = .ok (.getfield 13, 3) := by decide +kernel
theorem dX7_isItem_120 : decode cX7_isItem 120 = .ok (.iconst 0, 1) := by decide +kernel
theorem dX7_isItem_121 : decode cX7_isItem 121 = .ok (.iaload, 1) := by decide +kernel
theorem dX7_isItem_122 : decode cX7_isItem 122 = .ok (.iconst 0, 1) := by decide +kernel
theorem dX7_isItem_123 : decode cX7_isItem 123 = .ok (.iconst 2, 1) := by decide +kernel
theorem dX7_isItem_124 : decode cX7_isItem 124 = .ok (.invokestatic 84, 3) := by decide +kernel
theorem dX7_isItem_127 : decode cX7_isItem 127 = .ok (.ifCond .eq 12, 3) := by decide +kernel
theorem dX7_isItem_130 : decode cX7_isItem 130 = .ok (.aload_n 0, 1) := by decide +kernel
theorem dX7_isItem_131 : decode cX7_isItem 131 = .ok (.getfield 96, 3) := by decide +kernel
theorem dX7_isItem_134 : decode cX7_isItem 134 = .ok (.bipush 6, 2) := by decide +kernel
theorem dX7_isItem_136 : decode cX7_isItem 136 = .ok (.if_icmp .ne 5, 3) := by decide +kernel
theorem dX7_isItem_139 : decode cX7_isItem 139 = .ok (.iconst 0, 1) := by decide +kernel
theorem dX7_isItem_140 : decode cX7_isItem 140 = .ok (.ireturn, 1) := by decide +kernel
theorem dX7_isItem_141 : decode cX7_isItem 141 = .ok (.aload_n 0, 1) := by decide +kernel
theorem dX7_isItem_142 : decode cX7_isItem 142 = .ok (.getfield 16, 3) := by decide +kernel
theorem dX7_isItem_145 : decode cX7_isItem 145 = .ok (.aload_n 0, 1) := by decide +kernel
theorem dX7_isItem_146 : decode cX7_isItem 146 = .ok (.getfield 96, 3) := by decide +kernel
theorem dX7_isItem_149 : decode cX7_isItem 149 = .ok (.aload_n 0, 1) := by decide +kernel
theorem dX7_isItem_150 : decode cX7_isItem 150 = .ok (.getfield 13, 3) := by decide +kernel
theorem dX7_isItem_153 : decode cX7_isItem 153 = .ok (.iconst 0, 1) := by decide +kernel
theorem dX7_isItem_154 : decode cX7_isItem 154 = .ok (.iaload, 1) := by decide +kernel
theorem dX7_isItem_155 : decode cX7_isItem 155 = .ok (.iastore, 1) := by decide +kernel
theorem dX7_isItem_156 : decode cX7_isItem 156 = .ok (.aload_n 0, 1) := by decide +kernel
theorem dX7_isItem_157 : decode cX7_isItem 157 = .ok (.getfield 19, 3) := by decide +kernel
theorem dX7_isItem_160 : decode cX7_isItem 160 = .ok (.aload_n 0, 1) := by decide +kernel
theorem dX7_isItem_161 : decode cX7_isItem 161 = .ok (.getfield 96, 3) := by decide +kernel
theorem dX7_isItem_164 : decode cX7_isItem 164 = .ok (.iconst 0, 1) := by decide +kernel
theorem dX7_isItem_165 : decode cX7_isItem 165 = .ok (.iastore, 1) := by decide +kernel
theorem dX7_isItem_166 : decode cX7_isItem 166 = .ok (.aload_n 0, 1) := by decide +kernel
theorem dX7_isItem_167 : decode cX7_isItem 167 = .ok (.getfield 22, 3) := by decide +kernel
theorem dX7_isItem_170 : decode cX7_isItem 170 = .ok (.aload_n 0, 1) := by decide +kernel
theorem dX7_isItem_171 : decode cX7_isItem 171 = .ok (.getfield 96, 3) := by decide +kernel
theorem dX7_isItem_174 : decode cX7_isItem 174 = .ok (.iconst 0, 1) := by decide +kernel
theorem dX7_isItem_175 : decode cX7_isItem 175 = .ok (.iastore, 1) := by decide +kernel
theorem dX7_isItem_176 : decode cX7_isItem 176 = .ok (.aload_n 0, 1) := by decide +kernel
theorem dX7_isItem_177 : decode cX7_isItem 177 = .ok (.dup, 1) := by decide +kernel
theorem dX7_isItem_178 : decode cX7_isItem 178 = .ok (.getfield 96, 3) := by decide +kernel
theorem dX7_isItem_181 : decode cX7_isItem 181 = .ok (.iconst 1, 1) := by decide +kernel
theorem dX7_isItem_182 : decode cX7_isItem 182 = .ok (.iadd, 1) := by decide +kernel
theorem dX7_isItem_183 : decode cX7_isItem 183 = .ok (.putfield 96, 3) := by decide +kernel
theorem dX7_isItem_186 : decode cX7_isItem 186 = .ok (.iconst 1, 1) := by decide +kernel
theorem dX7_isItem_187 : decode cX7_isItem 187 = .ok (.ireturn, 1) := by decide +kernel
theorem dX7_isItem_188 : decode cX7_isItem 188 = .ok (.aload_n 0, 1) := by decide +kernel
theorem dX7_isItem_189 : decode cX7_isItem 189 = .ok (.iconst 3, 1) := by decide +kernel
theorem dX7_isItem_190 : decode cX7_isItem 190 = .ok (.invokevirtual 99, 3) := by decide +kernel
theorem dX7_isItem_193 : decode cX7_isItem 193 = .ok (.ifCond .eq 52, 3) := by decide +kernel
theorem dX7_isItem_196 : decode cX7_isItem 196 = .ok (.aload_n 0, 1) := by decide +kernel
theorem dX7_isItem_197 : decode cX7_isItem 197 = .ok (.invokevirtual 103, 3) := by decide +kernel
theorem dX7_isItem_200 : decode cX7_isItem 200 = .ok (.ifCond .eq 45, 3) := by decide +kernel
theorem dX7_isItem_203 : decode cX7_isItem 203 = .ok (.aload_n 0, 1) := by decide +kernel
theorem dX7_isItem_204 : decode cX7_isItem 204 = .ok (.getfield 13, 3) := by decide +kernel
theorem dX7_isItem_207 : decode cX7_isItem 207 = .ok (.iconst 1, 1) := by decide +kernel
theorem dX7_isItem_208 : decode cX7_isItem 208 = .ok (.iaload, 1) := by decide +kernel
theorem dX7_isItem_209 : decode cX7_isItem 209 = .ok (.iconst 0, 1) := by decide +kernel
theorem dX7_isItem_210 : decode cX7_isItem 210 = .ok (.bipush 40, 2) := by decide +kernel
theorem dX7_isItem_212 : decode cX7_isItem 212 = .ok (.invokestatic 84, 3) := by decide +kernel
theorem dX7_isItem_215 : decode cX7_isItem 215 = .ok (.ifCond .eq 30, 3) := by decide +kernel
theorem dX7_isItem_218 : decode cX7_isItem 218 = .ok (.aload_n 0, 1) := by decide +kernel
theorem dX7_isItem_219 : decode cX7_isItem 219 = .ok (.getfield 13, 3) := by decide +kernel
theorem dX7_isItem_222 : decode cX7_isItem 222 = .ok (.iconst 2, 1) := by decide +kernel
theorem dX7_isItem_223 : decode cX7_isItem 223 = .ok (.iaload, 1) := by decide +kernel
theorem dX7_isItem_224 : decode cX7_isItem 224 = .ok (.iconst 0, 1) := by decide +kernel
theorem dX7_isItem_225 : decode cX7_isItem 225 = .ok (.aload_n 0, 1) := by decide +kernel
theorem dX7_isItem_226 : decode cX7_isItem 226 = .ok (.getfield 13, 3) := by decide +kernel
theorem dX7_isItem_229 : decode cX7_isItem 229 = .ok (.iconst 1, 1) := by decide +kernel
theorem dX7_isItem_230 : decode cX7_isItem 230 = .ok (.iaload, 1) := by decide +kernel
theorem dX7_isItem_231 : decode cX7_isItem 231 = .ok (.ifCond .le 7, 3) := by decide +kernel
theorem dX7_isItem_234 : decode cX7_isItem 234 = .ok (.iconst 1, 1) := by decide +kernel
theorem dX7_isItem_235 : decode cX7_isItem 235 = .ok (.goto 4, 3) := by decide +kernel
theorem dX7_isItem_238 : decode cX7_isItem 238 = .ok (.iconst 0, 1) := by decide +kernel
theorem dX7_isItem_239 : decode cX7_isItem 239 = .ok (.invokestatic 84, 3) := by decide +kernel
theorem dX7_isItem_242 : decode cX7_isItem 242 = .ok (.ifCond .ne 5, 3) := by decide +kernel
theorem dX7_isItem_245 : decode cX7_isItem 245 = .ok (.iconst 0, 1) := by decide +kernel
theorem dX7_isItem_246 : decode cX7_isItem 246 = .ok (.ireturn, 1) := by decide +kernel
theorem dX7_isItem_247 : decode cX7_isItem 247 = .ok (.aload_n 0, 1) := by decide +kernel
theorem dX7_isItem_248 : decode cX7_isItem 248 = .ok (.getfield 19, 3) := by decide +kernel
theorem dX7_isItem_251 : decode cX7_isItem 251 = .ok (.aload_n 0, 1) := by decide +kernel
theorem dX7_isItem_252 : decode cX7_isItem 252 = .ok (.getfield 13, 3) := by decide +kernel
theorem dX7_isItem_255 : decode cX7_isItem 255 = .ok (.iconst 0, 1) := by decide +kernel
theorem dX7_isItem_256 : decode cX7_isItem 256 = .ok (.iaload, 1) := by decide +kernel
theorem dX7_isItem_257 : decode cX7_isItem 257 = .ok (.aload_n 0, 1) := by decide +kernel
theorem dX7_isItem_258 : decode cX7_isItem 258 = .ok (.getfield 13, 3) := by decide +kernel
theorem dX7_isItem_261 : decode cX7_isItem 261 = .ok (.iconst 1, 1) := by decide +kernel
theorem dX7_isItem_262 : decode cX7_isItem 262 = .ok (.iaload, 1) := by decide +kernel
theorem dX7_isItem_263 : decode cX7_isItem 263 = .ok (.iastore, 1) := by decide +kernel
theorem dX7_isItem_264 : decode cX7_isItem 264 = .ok (.aload_n 0, 1) := by decide +kernel
theorem dX7_isItem_265 : decode cX7_isItem 265 = .ok (.getfield 22, 3) := by decide +kernel
theorem dX7_isItem_268 : decode cX7_isItem 268 = .ok (.aload_n 0, 1) := by decide +kernel
theorem dX7_isItem_269 : decode cX7_isItem 269 = .ok (.getfield 13, 3) := by decide +kernel
theorem dX7_isItem_272 : decode cX7_isItem 272 = .ok (.iconst 0, 1) := by decide +kernel
theorem dX7_isItem_273 : decode cX7_isItem 273 = .ok (.iaload, 1) := by decide +kernel
theorem dX7_isItem_274 : decode cX7_isItem 274 = .ok (.aload_n 0, 1) := by decide +kernel
theorem dX7_isItem_275 : decode cX7_isItem 275 = .ok (.getfield 13, 3) := by decide +kernel
theorem dX7_isItem_278 : decode cX7_isItem 278 = .ok (.iconst 2, 1) := by decide +kernel
theorem dX7_isItem_279 : decode cX7_isItem 279 = .ok (.iaload, 1) := by decide +kernel
theorem dX7_isItem_280 : decode cX7_isItem 280 = .ok (.iastore, 1) := by decide +kernel
theorem dX7_isItem_281 : decode cX7_isItem 281 = .ok (.iconst 1, 1) := by decide +kernel
theorem dX7_isItem_282 : decode cX7_isItem 282 = .ok (.ireturn, 1) := by decide +kernel
theorem dX7_isItem_283 : decode cX7_isItem 283 = .ok (.aload_n 0, 1) := by decide +kernel
theorem dX7_isItem_284 : decode cX7_isItem 284 = .ok (.iconst 1, 1) := by decide +kernel
theorem dX7_isItem_285 : decode cX7_isItem 285 = .ok (.invokevirtual 99, 3) := by decide +kernel
theorem dX7_isItem_288 : decode cX7_isItem 288 = .ok (.ifCond .eq 10, 3) := by decide +kernel
theorem dX7_isItem_291 : decode cX7_isItem 291 = .ok (.aload_n 0, 1) := by decide +kernel
theorem dX7_isItem_292 : decode cX7_isItem 292 = .ok (.invokevirtual 103, 3) := by decide +kernel
theorem dX7_isItem_295 : decode cX7_isItem 295 = .ok (.ifCond .ne 5, 3) := by decide +kernel
theorem dX7_isItem_298 : decode cX7_isItem 298 = .ok (.iconst 0, 1) := by decide +kernel
theorem dX7_isItem_299 : decode cX7_isItem 299 = .ok (.ireturn, 1) := by decide +kernel
theorem dX7_isItem_300 : decode cX7_isItem 300 = .ok (.aload_n 0, 1) := by decide +kernel
theorem dX7_isItem_301 : decode cX7_isItem 301 = .ok (.getfield 19, 3) := by decide +kernel
theorem dX7_isItem_304 : decode cX7_isItem 304 = .ok (.aload_n 0, 1) := by decide +kernel
theorem dX7_isItem_305 : decode cX7_isItem 305 = .ok (.getfield 13, 3) := by decide +kernel
theorem dX7_isItem_308 : decode cX7_isItem 308 = .ok (.iconst 0, 1) := by decide +kernel
theorem dX7_isItem_309 : decode cX7_isItem 309 = .ok (.iaload, 1) := by decide +kernel
theorem dX7_isItem_310 : decode cX7_isItem 310 = .ok (.iconst (-1), 1) := by decide +kernel
theorem dX7_isItem_311 : decode cX7_isItem 311 = .ok (.iastore, 1) := by decide +kernel
theorem dX7_isItem_312 : decode cX7_isItem 312 = .ok (.aload_n 0, 1) := by decide +kernel
theorem dX7_isItem_313 : decode cX7_isItem 313 = .ok (.getfield 22, 3) := by decide +kernel
theorem dX7_isItem_316 : decode cX7_isItem 316 = .ok (.aload_n 0, 1) := by decide +kernel
theorem dX7_isItem_317 : decode cX7_isItem 317 = .ok (.getfield 13, 3) := by decide +kernel
theorem dX7_isItem_320 : decode cX7_isItem 320 = .ok (.iconst 0, 1) := by decide +kernel
theorem dX7_isItem_321 : decode cX7_isItem 321 = .ok (.iaload, 1) := by decide +kernel
theorem dX7_isItem_322 : decode cX7_isItem 322 = .ok (.iconst 0, 1) := by decide +kernel
theorem dX7_isItem_323 : decode cX7_isItem 323 = .ok (.iastore, 1) := by decide +kernel
theorem dX7_isItem_324 : decode cX7_isItem 324 = .ok (.iconst 1, 1) := by decide +kernel
theorem dX7_isItem_325 : decode cX7_isItem 325 = .ok (.ireturn, 1) := by decide +kernel
theorem dX7_isItem_326 : decode cX7_isItem 326 = .ok (.aload_n 0, 1) := by decide +kernel
theorem dX7_isItem_327 : decode cX7_isItem 327 = .ok (.iconst 1, 1) := by decide +kernel
theorem dX7_isItem_328 : decode cX7_isItem 328 = .ok (.invokevirtual 99, 3) := by decide +kernel
theorem dX7_isItem_331 : decode cX7_isItem 331 = .ok (.ifCond .eq 17, 3) := by decide +kernel
theorem dX7_isItem_334 : decode cX7_isItem 334 = .ok (.aload_n 0, 1) := by decide +kernel
theorem dX7_isItem_335 : decode cX7_isItem 335 = .ok (.getfield 13, 3) := by decide +kernel
theorem dX7_isItem_338 : decode cX7_isItem 338 = .ok (.iconst 0, 1) := by decide +kernel
theorem dX7_isItem_339 : decode cX7_isItem 339 = .ok (.iaload, 1) := by decide +kernel
theorem dX7_isItem_340 : decode cX7_isItem 340 = .ok (.iconst 0, 1) := by decide +kernel
theorem dX7_isItem_341 : decode cX7_isItem 341 = .ok (.iconst 5, 1) := by decide +kernel
theorem dX7_isItem_342 : decode cX7_isItem 342 = .ok (.invokestatic 84, 3) := by decide +kernel
theorem dX7_isItem_345 : decode cX7_isItem 345 = .ok (.ifCond .ne 5, 3) := by decide +kernel
theorem dX7_isItem_348 : decode cX7_isItem 348 = .ok (.iconst 0, 1) := by decide +kernel
theorem dX7_isItem_349 : decode cX7_isItem 349 = .ok (.ireturn, 1) := by decide +kernel
theorem dX7_isItem_350 : decode cX7_isItem 350 = .ok (.aload_n 0, 1) := by decide +kernel
theorem dX7_isItem_351 : decode cX7_isItem 351 = .ok (.aload_n 0, 1) := by decide +kernel
theorem dX7_isItem_352 : decode cX7_isItem 352 = .ok (.getfield 13, 3) := by decide +kernel
theorem dX7_isItem_355 : decode cX7_isItem 355 = .ok (.iconst 0, 1) := by decide +kernel
theorem dX7_isItem_356 : decode cX7_isItem 356 = .ok (.iaload, 1) := by decide +kernel
theorem dX7_isItem_357 : decode cX7_isItem 357 = .ok (.putfield 107, 3) := by decide +kernel
theorem dX7_isItem_360 : decode cX7_isItem 360 = .ok (.iconst 1, 1) := by decide +kernel
theorem dX7_isItem_361 : decode cX7_isItem 361 = .ok (.ireturn, 1) := by decide +kernel
theorem dX7_isItem_362 : decode cX7_isItem 362 = .ok (.aload_n 0, 1) := by decide +kernel
theorem dX7_isItem_363 : decode cX7_isItem 363 = .ok (.iconst 2, 1) := by decide +kernel
theorem dX7_isItem_364 : decode cX7_isItem 364 = .ok (.invokevirtual 99, 3) := by decide +kernel
theorem dX7_isItem_367 : decode cX7_isItem 367 = .ok (.ifCond .eq 41, 3) := by decide +kernel
theorem dX7_isItem_370 : decode cX7_isItem 370 = .ok (.aload_n 0, 1) := by decide +kernel
theorem dX7_isItem_371 : decode cX7_isItem 371 = .ok (.getfield 13, 3) := by decide +kernel
theorem dX7_isItem_374 : decode cX7_isItem 374 = .ok (.iconst 0, 1) := by decide +kernel
theorem dX7_isItem_375 : decode cX7_isItem 375 = .ok (.iaload, 1) := by decide +kernel
theorem dX7_isItem_376 : decode cX7_isItem 376 = .ok (.iconst 1, 1) := by decide +kernel
theorem dX7_isItem_377 : decode cX7_isItem 377 = .ok (.bipush 60, 2) := by decide +kernel
theorem dX7_isItem_379 : decode cX7_isItem 379 = .ok (.invokestatic 84, 3) := by decide +kernel
theorem dX7_isItem_382 : decode cX7_isItem 382 = .ok (.ifCond .eq 26, 3) := by decide +kernel
theorem dX7_isItem_385 : decode cX7_isItem 385 = .ok (.aload_n 0, 1) := by decide +kernel
theorem dX7_isItem_386 : decode cX7_isItem 386 = .ok (.getfield 13, 3) := by decide +kernel
theorem dX7_isItem_389 : decode cX7_isItem 389 = .ok (.iconst 1, 1) := by decide +kernel
theorem dX7_isItem_390 : decode cX7_isItem 390 = .ok (.iaload, 1) := by decide +kernel
theorem dX7_isItem_391 : decode cX7_isItem 391 = .ok (.iconst 0, 1) := by decide +kernel
theorem dX7_isItem_392 : decode cX7_isItem 392 = .ok (.iconst 5, 1) := by decide +kernel
theorem dX7_isItem_393 : decode cX7_isItem 393 = .ok (.invokestatic 84, 3) := by decide +kernel
theorem dX7_isItem_396 : decode cX7_isItem 396 = .ok (.ifCond .eq 12, 3) := by decide +kernel
theorem dX7_isItem_399 : decode cX7_isItem 399 = .ok (.aload_n 0, 1) := by decide +kernel
theorem dX7_isItem_400 : decode cX7_isItem 400 = .ok (.getfield 110, 3) := by decide +kernel
theorem dX7_isItem_403 : decode cX7_isItem 403 = .ok (.bipush 6, 2) := by decide +kernel
theorem dX7_isItem_405 : decode cX7_isItem 405 = .ok (.if_icmp .ne 5, 3) := by decide +kernel
theorem dX7_isItem_408 : decode cX7_isItem 408 = .ok (.iconst 0, 1) := by decide +kernel
theorem dX7_isItem_409 : decode cX7_isItem 409 = .ok (.ireturn, 1) := by decide +kernel
theorem dX7_isItem_410 : decode cX7_isItem 410 = .ok (.aload_n 0, 1) := by decide +kernel
theorem dX7_isItem_411 : decode cX7_isItem 411 = .ok (.getfield 25, 3) := by decide +kernel
theorem dX7_isItem_414 : decode cX7_isItem 414 = .ok (.iconst 2, 1) := by decide +kernel
theorem dX7_isItem_415 : decode cX7_isItem 415 = .ok (.aload_n 0, 1) := by decide +kernel
theorem dX7_isItem_416 : decode cX7_isItem 416 = .ok (.getfield 110, 3) := by decide +kernel
theorem dX7_isItem_419 : decode cX7_isItem 419 = .ok (.imul, 1) := by decide +kernel
theorem dX7_isItem_420 : decode cX7_isItem 420 = .ok (.aload_n 0, 1) := by decide +kernel
theorem dX7_isItem_421 : decode cX7_isItem 421 = .ok (.getfield 13, 3) := by decide +kernel
theorem dX7_isItem_424 : decode cX7_isItem 424 = .ok (.iconst 0, 1) := by decide +kernel
theorem dX7_isItem_425 : decode cX7_isItem 425 = .ok (.iaload, 1) := by decide +kernel
theorem dX7_isItem_426 : decode cX7_isItem 426 = .ok (.iastore, 1) := by decide +kernel
theorem dX7_isItem_427 : decode cX7_isItem 427 = .ok (.aload_n 0, 1) := by decide +kernel
theorem dX7_isItem_428 : decode cX7_isItem 428 = .ok (.getfield 25, 3) := by decide +kernel
theorem dX7_isItem_431 : decode cX7_isItem 431 = .ok (.iconst 2, 1) := by decide +kernel
theorem dX7_isItem_432 : decode cX7_isItem 432 = .ok (.aload_n 0, 1) := by decide +kernel
theorem dX7_isItem_433 : decode cX7_isItem 433 = .ok (.getfield 110, 3) := by decide +kernel
theorem dX7_isItem_436 : decode cX7_isItem 436 = .ok (.imul, 1) := by decide +kernel
theorem dX7_isItem_437 : decode cX7_isItem 437 = .ok (.iconst 1, 1) := by decide +kernel
theorem dX7_isItem_438 : decode cX7_isItem 438 = .ok (.iadd, 1) := by decide +kernel
theorem dX7_isItem_439 : decode cX7_isItem 439 = .ok (.aload_n 0, 1) := by decide +kernel
theorem dX7_isItem_440 : decode cX7_isItem 440 = .ok (.getfield 13, 3) := by decide +kernel
theorem dX7_isItem_443 : decode cX7_isItem 443 = .ok (.iconst 1, 1) := by decide +kernel
theorem dX7_isItem_444 : decode cX7_isItem 444 = .ok (.iaload, 1) := by decide +kernel
theorem dX7_isItem_445 : decode cX7_isItem 445 = .ok (.iastore, 1) := by decide +kernel
theorem dX7_isItem_446 : decode cX7_isItem 446 = .ok (.aload_n 0, 1) := by decide +kernel
theorem dX7_isItem_447 : decode cX7_isItem 447 = .ok (.dup, 1) := by decide +kernel
theorem dX7_isItem_448 : decode cX7_isItem 448 = .ok (.getfield 110, 3) := by decide +kernel
theorem dX7_isItem_451 : decode cX7_isItem 451 = .ok (.iconst 1, 1) := by decide +kernel
theorem dX7_isItem_452 : decode cX7_isItem 452 = .ok (.iadd, 1) := by decide +kernel
theorem dX7_isItem_453 : decode cX7_isItem 453 = .ok (.putfield 110, 3) := by decide +kernel
theorem dX7_isItem_456 : decode cX7_isItem 456 = .ok (.iconst 1, 1) := by decide +kernel
theorem dX7_isItem_457 : decode cX7_isItem 457 = .ok (.ireturn, 1) := by decide +kernel
theorem dX7_isItem_458 : decode cX7_isItem 458 = .ok (.aload_n 0, 1) := by decide +kernel
theorem dX7_isItem_459 : decode cX7_isItem 459 = .ok (.iconst 2, 1) := by decide +kernel
theorem dX7_isItem_460 : decode cX7_isItem 460 = .ok (.invokevirtual 99, 3) := by decide +kernel
theorem dX7_isItem_463 : decode cX7_isItem 463 = .ok (.ifCond .eq 37, 3) := by decide +kernel
theorem dX7_isItem_466 : decode cX7_isItem 466 = .ok (.aload_n 0, 1) := by decide +kernel
theorem dX7_isItem_467 : decode cX7_isItem 467 = .ok (.getfield 13, 3) := by decide +kernel
theorem dX7_isItem_470 : decode cX7_isItem 470 = .ok (.iconst 1, 1) := by decide +kernel
theorem dX7_isItem_471 : decode cX7_isItem 471 = .ok (.iaload, 1) := by decide +kernel
theorem dX7_isItem_472 : decode cX7_isItem 472 = .ok (.iconst 0, 1) := by decide +kernel
theorem dX7_isItem_473 : decode cX7_isItem 473 = .ok (.bipush 60, 2) := by decide +kernel
theorem dX7_isItem_475 : decode cX7_isItem 475 = .ok (.invokestatic 84, 3) := by decide +kernel
theorem dX7_isItem_478 : decode cX7_isItem 478 = .ok (.ifCond .eq 22, 3) := by decide +kernel
theorem dX7_isItem_481 : decode cX7_isItem 481 = .ok (.aload_n 0, 1) := by decide +kernel
theorem dX7_isItem_482 : decode cX7_isItem 482 = .ok (.getfield 13, 3) := by decide +kernel
theorem dX7_isItem_485 : decode cX7_isItem 485 = .ok (.iconst 0, 1) := by decide +kernel
theorem dX7_isItem_486 : decode cX7_isItem 486 = .ok (.iaload, 1) := by decide +kernel
theorem dX7_isItem_487 : decode cX7_isItem 487 = .ok (.iconst 0, 1) := by decide +kernel
theorem dX7_isItem_488 : decode cX7_isItem 488 = .ok (.aload_n 0, 1) := by decide +kernel
theorem dX7_isItem_489 : decode cX7_isItem 489 = .ok (.getfield 13, 3) := by decide +kernel
theorem dX7_isItem_492 : decode cX7_isItem 492 = .ok (.iconst 1, 1) := by decide +kernel
theorem dX7_isItem_493 : decode cX7_isItem 493 = .ok (.iaload, 1) := by decide +kernel
theorem dX7_isItem_494 : decode cX7_isItem 494 = .ok (.invokestatic 84, 3) := by decide +kernel
theorem dX7_isItem_497 : decode cX7_isItem 497 = .ok (.ifCond .ne 5, 3) := by decide +kernel
theorem dX7_isItem_500 : decode cX7_isItem 500 = .ok (.iconst 0, 1) := by decide +kernel
theorem dX7_isItem_501 : decode cX7_isItem 501 = .ok (.ireturn, 1) := by decide +kernel
theorem dX7_isItem_502 : decode cX7_isItem 502 = .ok (.aload_n 0, 1) := by decide +kernel
theorem dX7_isItem_503 : decode cX7_isItem 503 = .ok (.aload_n 0, 1) := by decide +kernel
theorem dX7_isItem_504 : decode cX7_isItem 504 = .ok (.getfield 13, 3) := by decide +kernel
theorem dX7_isItem_507 : decode cX7_isItem 507 = .ok (.iconst 0, 1) := by decide +kernel
theorem dX7_isItem_508 : decode cX7_isItem 508 = .ok (.iaload, 1) := by decide +kernel
theorem dX7_isItem_509 : decode cX7_isItem 509 = .ok (.putfield 113, 3) := by decide +kernel
theorem dX7_isItem_512 : decode cX7_isItem 512 = .ok (.aload_n 0, 1) := by decide +kernel
theorem dX7_isItem_513 : decode cX7_isItem 513 = .ok (.aload_n 0, 1) := by decide +kernel
theorem dX7_isItem_514 : decode cX7_isItem 514 = .ok (.getfield 13, 3) := by decide +kernel
theorem dX7_isItem_517 : decode cX7_isItem 517 = .ok (.iconst 1, 1) := by decide +kernel
theorem dX7_isItem_518 : decode cX7_isItem 518 = .ok (.iaload, 1) := by decide +kernel
theorem dX7_isItem_519 : decode cX7_isItem 519 = .ok (.putfield 116, 3) := by decide +kernel
theorem dX7_isItem_522 : decode cX7_isItem 522 = .ok (.iconst 1, 1) := by decide +kernel
theorem dX7_isItem_523 : decode cX7_isItem 523 = .ok (.ireturn, 1) := by decide +kernel
theorem dX7_isItem_524 : decode cX7_isItem 524 = .ok (.iconst 0, 1) := by decide +kernel
theorem dX7_isItem_525 : decode cX7_isItem 525 = .ok (.ireturn, 1) := by decide +kernel
set_option maxRecDepth 20000 in
theorem ggX7_findFault_X7_isItem : GoodIn wsX7_findFault wsX7_isItem := goodIn_r _ [12, 13, 1, 14, 2, 15, 16, 17, 3, 4, 18, 5, 6, 19, 20, 21, 11, 22, 7, 23, 24, 25, 26, 27, 28, 29, 30, 31, 32, 33, 34, 35, 36, 37, 38, 39, 40, 41, 42, 43, 44, 45, 46, 47, 48, 49, 50, 51, 52, 53, 54, 55, 56, 57, 58, 59, 60, 61, 62, 63, 64] (by decide +kernel) (by decide +kernel)
set_option maxRecDepth 20000 in
theorem gX7_findFault_X7_isItem : GoodIn wsX7_findFault (wsV RX7 119 RX7 yX7_isItem wsX7_isItem) := goodIn_app (goodIn_of _ (by decide +kernel)) ggX7_findFault_X7_isItem
theorem dX7_findFault_0 : decode cX7_findFault 0 = .ok (.aload_n 0, 1) := by decide +kernel
theorem dX7_findFault_1 : decode cX7_findFault 1 = .ok (.iconst 0, 1) := by decide +kernel
theorem dX7_findFault_2 : decode cX7_findFault 2 = .ok (.putfield 93, 3) := by decide +kernel
theorem dX7_findFault_5 : decode cX7_findFault 5 = .ok (.aload_n 0, 1) := by decide +kernel
theorem dX7_findFault_6 : decode cX7_findFault 6 = .ok (.iconst 0, 1) := by decide +kernel
theorem dX7_findFault_7 : decode cX7_findFault 7 = .ok (.putfield 96, 3) := by decide +kernel
theorem dX7_findFault_10 : decode cX7_findFault 10 = .ok (.aload_n 0, 1) := by decide +kernel
theorem dX7_findFault_11 : decode cX7_findFault 11 = .ok (.iconst 1, 1) := by decide +kernel
theorem dX7_findFault_12 : decode cX7_findFault 12 = .ok (.putfield 107, 3) := by decide +kernel
theorem dX7_findFault_15 : decode cX7_findFault 15 = .ok (.aload_n 0, 1) := by decide +kernel
theorem dX7_findFault_16 : decode cX7_findFault 16 = .ok (.iconst 0, 1) := by decide +kernel
theorem dX7_findFault_17 : decode cX7_findFault 17 = .ok (.putfield 110, 3) := by decide +kernel
theorem dX7_findFault_20 : decode cX7_findFault 20 = .ok (.aload_n 0, 1) := by decide +kernel
theorem dX7_findFault_21 : decode cX7_findFault 21 = .ok (.iconst 1, 1) := by decide +kernel
theorem dX7_findFault_22 : decode cX7_findFault 22 = .ok (.putfield 113, 3) := by decide +kernel
theorem dX7_findFault_25 : decode cX7_findFault 25 = .ok (.aload_n 0, 1) := by decide +kernel
theorem dX7_findFault_26 : decode cX7_findFault 26 = .ok (.iconst 0, 1) := by decide +kernel
theorem dX7_findFault_27 : decode cX7_findFault 27 = .ok (.putfield 116, 3) := by decide +kernel
theorem dX7_findFault_30 : decode cX7_findFault 30 = .ok (.aload_n 0, 1) := by decide +kernel
theorem dX7_findFault_31 : decode cX7_findFault 31 = .ok (.getfield 93, 3) := by decide +kernel
theorem dX7_findFault_34 : decode cX7_findFault 34 = .ok (.aload_n 0, 1) := by decide +kernel
theorem dX7_findFault_35 : decode cX7_findFault 35 = .ok (.getfield 88, 3) := by decide +kernel
theorem dX7_findFault_38 : decode cX7_findFault 38 = .ok (.if_icmp .ge 20, 3) := by decide +kernel
theorem dX7_findFault_41 : decode cX7_findFault 41 = .ok (.aload_n 0, 1) := by decide +kernel
theorem dX7_findFault_42 : decode cX7_findFault 42 = .ok (.getfield 93, 3) := by decide +kernel
theorem dX7_findFault_45 : decode cX7_findFault 45 = .ok (.istore_n 1, 1) := by decide +kernel
theorem dX7_findFault_46 : decode cX7_findFault 46 = .ok (.aload_n 0, 1) := by decide +kernel
theorem dX7_findFault_47 : decode cX7_findFault 47 = .ok (.invokevirtual 119, 3) := by decide +kernel
theorem dX7_findFault_50 : decode cX7_findFault 50 = .ok (.ifCond .ne 5, 3) := by decide +kernel
theorem dX7_findFault_53 : decode cX7_findFault 53 = .ok (.iload_n 1, 1) := by decide +kernel
theorem dX7_findFault_54 : decode cX7_findFault 54 = .ok (.ireturn, 1) := by decide +kernel
theorem dX7_findFault_55 : decode cX7_findFault 55 = .ok (.goto (-25), 3) := by decide +kernel
theorem dX7_findFault_58 : decode cX7_findFault 58 = .ok (.bipush (-4), 2) := by decide +kernel
theorem dX7_findFault_60 : decode cX7_findFault 60 = .ok (.ireturn, 1) := by decide +kernel
set_option maxRecDepth 20000 in
theorem ggX7_fault_X7_findFault : GoodIn wsX7_fault wsX7_findFault := goodIn_r _ [5, 6, 7, 8, 9, 10, 11, 12, 13, 14, 15, 4, 16, 17, 18, 19, 20, 21, 22, 23, 24, 25, 26, 27, 28, 29, 30, 31, 32, 33, 34, 35, 36, 37, 38, 39, 40, 41, 42, 43, 44, 45, 46, 47, 48, 49, 50, 51, 52, 53, 54, 55, 56, 57, 58, 59, 60, 61, 62, 63, 64, 65, 66, 67, 68] (by decide +kernel) (by decide +kernel)
set_option maxRecDepth 20000 in
theorem gX7_fault_X7_findFault : GoodIn wsX7_fault (wsV RX7 122 RX7 yX7_findFault wsX7_findFault) := goodIn_app (goodIn_of _ (by decide +kernel)) ggX7_fault_X7_findFault
theorem dX7_fault_0 : decode cX7_fault 0 = .ok (.aload_n 0, 1) := by decide +kernel
theorem dX7_fault_1 : decode cX7_fault 1 = .ok (.invokevirtual 122, 3) := by decide +kernel
theorem dX7_fault_4 : decode cX7_fault 4 = .ok (.ireturn, 1) := by decide +kernel
set_option maxRecDepth 20000 in
theorem ggX7_lay_X7_findFault : GoodIn wsX7_lay wsX7_findFault := goodIn_r _ [27, 28, 1, 11, 2, 15, 17, 29, 30, 31, 32, 26, 33, 34, 35, 6, 8, 10, 3, 36, 37, 38, 39, 40, 41, 42, 43, 44, 45, 46, 51, 52, 53, 54, 55, 56, 57, 58, 59, 60, 61, 62, 63, 64, 65, 66, 67, 68, 69, 70, 71, 72, 73, 74, 75, 76, 77, 78, 79, 80, 81, 82, 83, 84, 85] (by decide +kernel) (by decide +kernel)
set_option maxRecDepth 20000 in
theorem gX7_lay_X7_findFault : GoodIn wsX7_lay (wsV RX7 122 RX7 yX7_findFault wsX7_findFault) := goodIn_app (goodIn_of _ (by decide +kernel)) ggX7_lay_X7_findFault
set_option maxRecDepth 20000 in
theorem ggX7_lay_X7_begin : GoodIn wsX7_lay wsX7_begin := goodIn_r _ [50, 7, 9, 51, 52, 53, 54, 55, 56, 57, 58, 59, 60, 61, 62, 63, 64, 65, 66, 67, 68, 69, 70, 71, 72, 73, 74, 75, 76, 77, 78, 79, 80, 81, 82, 83, 84, 85] (by decide +kernel) (by decide +kernel)
set_option maxRecDepth 20000 in
theorem gX7_lay_X7_begin : GoodIn wsX7_lay (wsV RX7 80 RX7 yX7_begin wsX7_begin) := goodIn_app (goodIn_of _ (by decide +kernel)) ggX7_lay_X7_begin
theorem dX7_lay_0 : decode cX7_lay 0 = .ok (.aload_n 0, 1) := by decide +kernel
theorem dX7_lay_1 : decode cX7_lay 1 = .ok (.invokevirtual 122, 3) := by decide +kernel
theorem dX7_lay_4 : decode cX7_lay 4 = .ok (.bipush (-4), 2) := by decide +kernel
theorem dX7_lay_6 : decode cX7_lay 6 = .ok (.if_icmp .ne 15, 3) := by decide +kernel
theorem dX7_lay_9 : decode cX7_lay 9 = .ok (.aload_n 0, 1) := by decide +kernel
theorem dX7_lay_10 : decode cX7_lay 10 = .ok (.getfield 96, 3) := by decide +kernel
theorem dX7_lay_13 : decode cX7_lay 13 = .ok (.iconst 1, 1) := by decide +kernel
theorem dX7_lay_14 : decode cX7_lay 14 = .ok (.if_icmp .le 7, 3) := by decide +kernel
theorem dX7_lay_17 : decode cX7_lay 17 = .ok (.iconst 1, 1) := by decide +kernel
theorem dX7_lay_18 : decode cX7_lay 18 = .ok (.goto 4, 3) := by decide +kernel
theorem dX7_lay_21 : decode cX7_lay 21 = .ok (.iconst 0, 1) := by decide +kernel
theorem dX7_lay_22 : decode cX7_lay 22 = .ok (.istore_n 1, 1) := by decide +kernel
theorem dX7_lay_23 : decode cX7_lay 23 = .ok (.iconst 0, 1) := by decide +kernel
theorem dX7_lay_24 : decode cX7_lay 24 = .ok (.istore_n 2, 1) := by decide +kernel
theorem dX7_lay_25 : decode cX7_lay 25 = .ok (.iload_n 2, 1) := by decide +kernel
theorem dX7_lay_26 : decode cX7_lay 26 = .ok (.aload_n 0, 1) := by decide +kernel
theorem dX7_lay_27 : decode cX7_lay 27 = .ok (.getfield 110, 3) := by decide +kernel
theorem dX7_lay_30 : decode cX7_lay 30 = .ok (.if_icmp .ge 36, 3) := by decide +kernel
theorem dX7_lay_33 : decode cX7_lay 33 = .ok (.iload_n 1, 1) := by decide +kernel
theorem dX7_lay_34 : decode cX7_lay 34 = .ok (.ifCond .eq 24, 3) := by decide +kernel
theorem dX7_lay_37 : decode cX7_lay 37 = .ok (.aload_n 0, 1) := by decide +kernel
theorem dX7_lay_38 : decode cX7_lay 38 = .ok (.getfield 25, 3) := by decide +kernel
theorem dX7_lay_41 : decode cX7_lay 41 = .ok (.iconst 2, 1) := by decide +kernel
theorem dX7_lay_42 : decode cX7_lay 42 = .ok (.iload_n 2, 1) := by decide +kernel
theorem dX7_lay_43 : decode cX7_lay 43 = .ok (.imul, 1) := by decide +kernel
theorem dX7_lay_44 : decode cX7_lay 44 = .ok (.iconst 1, 1) := by decide +kernel
theorem dX7_lay_45 : decode cX7_lay 45 = .ok (.iadd, 1) := by decide +kernel
theorem dX7_lay_46 : decode cX7_lay 46 = .ok (.iaload, 1) := by decide +kernel
theorem dX7_lay_47 : decode cX7_lay 47 = .ok (.aload_n 0, 1) := by decide +kernel
theorem dX7_lay_48 : decode cX7_lay 48 = .ok (.getfield 96, 3) := by decide +kernel
theorem dX7_lay_51 : decode cX7_lay 51 = .ok (.if_icmp .ge 7, 3) := by decide +kernel
theorem dX7_lay_54 : decode cX7_lay 54 = .ok (.iconst 1, 1) := by decide +kernel
theorem dX7_lay_55 : decode cX7_lay 55 = .ok (.goto 4, 3) := by decide +kernel
theorem dX7_lay_58 : decode cX7_lay 58 = .ok (.iconst 0, 1) := by decide +kernel
theorem dX7_lay_59 : decode cX7_lay 59 = .ok (.istore_n 1, 1) := by decide +kernel
theorem dX7_lay_60 : decode cX7_lay 60 = .ok (.iinc 2 1, 3) := by decide +kernel
theorem dX7_lay_63 : decode cX7_lay 63 = .ok (.goto (-38), 3) := by decide +kernel
theorem dX7_lay_66 : decode cX7_lay 66 = .ok (.iload_n 1, 1) := by decide +kernel
theorem dX7_lay_67 : decode cX7_lay 67 = .ok (.ifCond .ne 6, 3) := by decide +kernel
theorem dX7_lay_70 : decode cX7_lay 70 = .ok (.bipush (-2), 2) := by decide +kernel
theorem dX7_lay_72 : decode cX7_lay 72 = .ok (.ireturn, 1) := by decide +kernel
theorem dX7_lay_73 : decode cX7_lay 73 = .ok (.aload_n 0, 1) := by decide +kernel
theorem dX7_lay_74 : decode cX7_lay 74 = .ok (.aload_n 0, 1) := by decide +kernel
theorem dX7_lay_75 : decode cX7_lay 75 = .ok (.getfield 96, 3) := by decide +kernel
theorem dX7_lay_78 : decode cX7_lay 78 = .ok (.putfield 71, 3) := by decide +kernel
theorem dX7_lay_81 : decode cX7_lay 81 = .ok (.iconst 0, 1) := by decide +kernel
theorem dX7_lay_82 : decode cX7_lay 82 = .ok (.istore_n 2, 1) := by decide +kernel
theorem dX7_lay_83 : decode cX7_lay 83 = .ok (.iload_n 2, 1) := by decide +kernel
theorem dX7_lay_84 : decode cX7_lay 84 = .ok (.bipush 6, 2) := by decide +kernel
theorem dX7_lay_86 : decode cX7_lay 86 = .ok (.if_icmp .ge 69, 3) := by decide +kernel
theorem dX7_lay_89 : decode cX7_lay 89 = .ok (.aload_n 0, 1) := by decide +kernel
theorem dX7_lay_90 : decode cX7_lay 90 = .ok (.getfield 28, 3) := by decide +kernel
theorem dX7_lay_93 : decode cX7_lay 93 = .ok (.iload_n 2, 1) := by decide +kernel
theorem dX7_lay_94 : decode cX7_lay 94 = .ok (.aload_n 0, 1) := by decide +kernel
theorem dX7_lay_95 : decode cX7_lay 95 = .ok (.getfield 16, 3) := by decide +kernel
theorem dX7_lay_98 : decode cX7_lay 98 = .ok (.iload_n 2, 1) := by decide +kernel
theorem dX7_lay_99 : decode cX7_lay 99 = .ok (.iaload, 1) := by decide +kernel
theorem dX7_lay_100 : decode cX7_lay 100 = .ok (.iastore, 1) := by decide +kernel
theorem dX7_lay_101 : decode cX7_lay 101 = .ok (.aload_n 0, 1) := by decide +kernel
theorem dX7_lay_102 : decode cX7_lay 102 = .ok (.getfield 31, 3) := by decide +kernel
theorem dX7_lay_105 : decode cX7_lay 105 = .ok (.iload_n 2, 1) := by decide +kernel
theorem dX7_lay_106 : decode cX7_lay 106 = .ok (.iload_n 2, 1) := by decide +kernel
theorem dX7_lay_107 : decode cX7_lay 107 = .ok (.aload_n 0, 1) := by decide +kernel
theorem dX7_lay_108 : decode cX7_lay 108 = .ok (.getfield 71, 3) := by decide +kernel
theorem dX7_lay_111 : decode cX7_lay 111 = .ok (.if_icmp .ge 12, 3) := by decide +kernel
theorem dX7_lay_114 : decode cX7_lay 114 = .ok (.aload_n 0, 1) := by decide +kernel
theorem dX7_lay_115 : decode cX7_lay 115 = .ok (.getfield 19, 3) := by decide +kernel
theorem dX7_lay_118 : decode cX7_lay 118 = .ok (.iload_n 2, 1) := by decide +kernel
theorem dX7_lay_119 : decode cX7_lay 119 = .ok (.iaload, 1) := by decide +kernel
theorem dX7_lay_120 : decode cX7_lay 120 = .ok (.goto 4, 3) := by decide +kernel
theorem dX7_lay_123 : decode cX7_lay 123 = .ok (.iconst 0, 1) := by decide +kernel
theorem dX7_lay_124 : decode cX7_lay 124 = .ok (.iastore, 1) := by decide +kernel
theorem dX7_lay_125 : decode cX7_lay 125 = .ok (.aload_n 0, 1) := by decide +kernel
theorem dX7_lay_126 : decode cX7_lay 126 = .ok (.getfield 34, 3) := by decide +kernel
theorem dX7_lay_129 : decode cX7_lay 129 = .ok (.iload_n 2, 1) := by decide +kernel
theorem dX7_lay_130 : decode cX7_lay 130 = .ok (.iload_n 2, 1) := by decide +kernel
theorem dX7_lay_131 : decode cX7_lay 131 = .ok (.aload_n 0, 1) := by decide +kernel
theorem dX7_lay_132 : decode cX7_lay 132 = .ok (.getfield 71, 3) := by decide +kernel
theorem dX7_lay_135 : decode cX7_lay 135 = .ok (.if_icmp .ge 12, 3) := by decide +kernel
theorem dX7_lay_138 : decode cX7_lay 138 = .ok (.aload_n 0, 1) := by decide +kernel
theorem dX7_lay_139 : decode cX7_lay 139 = .ok (.getfield 22, 3) := by decide +kernel
theorem dX7_lay_142 : decode cX7_lay 142 = .ok (.iload_n 2, 1) := by decide +kernel
theorem dX7_lay_143 : decode cX7_lay 143 = .ok (.iaload, 1) := by decide +kernel
theorem dX7_lay_144 : decode cX7_lay 144 = .ok (.goto 4, 3) := by decide +kernel
theorem dX7_lay_147 : decode cX7_lay 147 = .ok (.iconst 0, 1) := by decide +kernel
theorem dX7_lay_148 : decode cX7_lay 148 = .ok (.iastore, 1) := by decide +kernel
theorem dX7_lay_149 : decode cX7_lay 149 = .ok (.iinc 2 1, 3) := by decide +kernel
theorem dX7_lay_152 : decode cX7_lay 152 = .ok (.goto (-69), 3) := by decide +kernel
theorem dX7_lay_155 : decode cX7_lay 155 = .ok (.aload_n 0, 1) := by decide +kernel
theorem dX7_lay_156 : decode cX7_lay 156 = .ok (.aload_n 0, 1) := by decide +kernel
theorem dX7_lay_157 : decode cX7_lay 157 = .ok (.getfield 107, 3) := by decide +kernel
theorem dX7_lay_160 : decode cX7_lay 160 = .ok (.putfield 74, 3) := by decide +kernel
theorem dX7_lay_163 : decode cX7_lay 163 = .ok (.aload_n 0, 1) := by decide +kernel
theorem dX7_lay_164 : decode cX7_lay 164 = .ok (.aload_n 0, 1) := by decide +kernel
theorem dX7_lay_165 : decode cX7_lay 165 = .ok (.getfield 110, 3) := by decide +kernel
theorem dX7_lay_168 : decode cX7_lay 168 = .ok (.putfield 126, 3) := by decide +kernel
theorem dX7_lay_171 : decode cX7_lay 171 = .ok (.iconst 0, 1) := by decide +kernel
theorem dX7_lay_172 : decode cX7_lay 172 = .ok (.istore_n 2, 1) := by decide +kernel
theorem dX7_lay_173 : decode cX7_lay 173 = .ok (.iload_n 2, 1) := by decide +kernel
theorem dX7_lay_174 : decode cX7_lay 174 = .ok (.bipush 12, 2) := by decide +kernel
theorem dX7_lay_176 : decode cX7_lay 176 = .ok (.if_icmp .ge 21, 3) := by decide +kernel
theorem dX7_lay_179 : decode cX7_lay 179 = .ok (.aload_n 0, 1) := by decide +kernel
theorem dX7_lay_180 : decode cX7_lay 180 = .ok (.getfield 37, 3) := by decide +kernel
theorem dX7_lay_183 : decode cX7_lay 183 = .ok (.iload_n 2, 1) := by decide +kernel
theorem dX7_lay_184 : decode cX7_lay 184 = .ok (.aload_n 0, 1) := by decide +kernel
theorem dX7_lay_185 : decode cX7_lay 185 = .ok (.getfield 25, 3) := by decide +kernel
theorem dX7_lay_188 : decode cX7_lay 188 = .ok (.iload_n 2, 1) := by decide +kernel
theorem dX7_lay_189 : decode cX7_lay 189 = .ok (.iaload, 1) := by decide +kernel
theorem dX7_lay_190 : decode cX7_lay 190 = .ok (.iastore, 1) := by decide +kernel
theorem dX7_lay_191 : decode cX7_lay 191 = .ok (.iinc 2 1, 3) := by decide +kernel
theorem dX7_lay_194 : decode cX7_lay 194 = .ok (.goto (-21), 3) := by decide +kernel
theorem dX7_lay_197 : decode cX7_lay 197 = .ok (.aload_n 0, 1) := by decide +kernel
theorem dX7_lay_198 : decode cX7_lay 198 = .ok (.aload_n 0, 1) := by decide +kernel
theorem dX7_lay_199 : decode cX7_lay 199 = .ok (.getfield 113, 3) := by decide +kernel
theorem dX7_lay_202 : decode cX7_lay 202 = .ok (.putfield 77, 3) := by decide +kernel
theorem dX7_lay_205 : decode cX7_lay 205 = .ok (.aload_n 0, 1) := by decide +kernel
theorem dX7_lay_206 : decode cX7_lay 206 = .ok (.aload_n 0, 1) := by decide +kernel
theorem dX7_lay_207 : decode cX7_lay 207 = .ok (.getfield 116, 3) := by decide +kernel
theorem dX7_lay_210 : decode cX7_lay 210 = .ok (.putfield 129, 3) := by decide +kernel
theorem dX7_lay_213 : decode cX7_lay 213 = .ok (.aload_n 0, 1) := by decide +kernel
theorem dX7_lay_214 : decode cX7_lay 214 = .ok (.aload_n 0, 1) := by decide +kernel
theorem dX7_lay_215 : decode cX7_lay 215 = .ok (.getfield 40, 3) := by decide +kernel
theorem dX7_lay_218 : decode cX7_lay 218 = .ok (.invokevirtual 80, 3) := by decide +kernel
theorem dX7_lay_221 : decode cX7_lay 221 = .ok (.aload_n 0, 1) := by decide +kernel
theorem dX7_lay_222 : decode cX7_lay 222 = .ok (.iconst 0, 1) := by decide +kernel
theorem dX7_lay_223 : decode cX7_lay 223 = .ok (.putfield 132, 3) := by decide +kernel
theorem dX7_lay_226 : decode cX7_lay 226 = .ok (.aload_n 0, 1) := by decide +kernel
theorem dX7_lay_227 : decode cX7_lay 227 = .ok (.iconst 0, 1) := by decide +kernel
theorem dX7_lay_228 : decode cX7_lay 228 = .ok (.putfield 135, 3) := by decide +kernel
theorem dX7_lay_231 : decode cX7_lay 231 = .ok (.aload_n 0, 1) := by decide +kernel
theorem dX7_lay_232 : decode cX7_lay 232 = .ok (.iconst 0, 1) := by decide +kernel
theorem dX7_lay_233 : decode cX7_lay 233 = .ok (.putfield 138, 3) := by decide +kernel
theorem dX7_lay_236 : decode cX7_lay 236 = .ok (.aload_n 0, 1) := by decide +kernel
theorem dX7_lay_237 : decode cX7_lay 237 = .ok (.getfield 71, 3) := by decide +kernel
theorem dX7_lay_240 : decode cX7_lay 240 = .ok (.ireturn, 1) := by decide +kernel
theorem dX7_copy_0 : decode cX7_copy 0 = .ok (.iconst 0, 1) := by decide +kernel
theorem dX7_copy_1 : decode cX7_copy 1 = .ok (.istore 4, 2) := by decide +kernel
theorem dX7_copy_3 : decode cX7_copy 3 = .ok (.iload 4, 2) := by decide +kernel
theorem dX7_copy_5 : decode cX7_copy 5 = .ok (.bipush 19, 2) := by decide +kernel
theorem dX7_copy_7 : decode cX7_copy 7 = .ok (.if_icmp .ge 21, 3) := by decide +kernel
theorem dX7_copy_10 : decode cX7_copy 10 = .ok (.aload_n 2, 1) := by decide +kernel
theorem dX7_copy_11 : decode cX7_copy 11 = .ok (.iload_n 3, 1) := by decide +kernel
theorem dX7_copy_12 : decode cX7_copy 12 = .ok (.iload 4, 2) := by decide +kernel
theorem dX7_copy_14 : decode cX7_copy 14 = .ok (.iadd, 1) := by decide +kernel
theorem dX7_copy_15 : decode cX7_copy 15 = .ok (.aload_n 0, 1) := by decide +kernel
theorem dX7_copy_16 : decode cX7_copy 16 = .ok (.iload_n 1, 1) := by decide +kernel
theorem dX7_copy_17 : decode cX7_copy 17 = .ok (.iload 4, 2) := by decide +kernel
theorem dX7_copy_19 : decode cX7_copy 19 = .ok (.iadd, 1) := by decide +kernel
theorem dX7_copy_20 : decode cX7_copy 20 = .ok (.iaload, 1) := by decide +kernel
theorem dX7_copy_21 : decode cX7_copy 21 = .ok (.iastore, 1) := by decide +kernel
theorem dX7_copy_22 : decode cX7_copy 22 = .ok (.iinc 4 1, 3) := by decide +kernel
theorem dX7_copy_25 : decode cX7_copy 25 = .ok (.goto (-22), 3) := by decide +kernel
theorem dX7_copy_28 : decode cX7_copy 28 = .ok (.return_, 1) := by decide +kernel
theorem dX7_ring_0 : decode cX7_ring 0 = .ok (.aload_n 1, 1) := by decide +kernel
theorem dX7_ring_1 : decode cX7_ring 1 = .ok (.bipush 18, 2) := by decide +kernel
theorem dX7_ring_3 : decode cX7_ring 3 = .ok (.dup2, 1) := by decide +kernel
theorem dX7_ring_4 : decode cX7_ring 4 = .ok (.iaload, 1) := by decide +kernel
theorem dX7_ring_5 : decode cX7_ring 5 = .ok (.iconst 1, 1) := by decide +kernel
theorem dX7_ring_6 : decode cX7_ring 6 = .ok (.iadd, 1) := by decide +kernel
theorem dX7_ring_7 : decode cX7_ring 7 = .ok (.iastore, 1) := by decide +kernel
theorem dX7_ring_8 : decode cX7_ring 8 = .ok (.iconst 0, 1) := by decide +kernel
theorem dX7_ring_9 : decode cX7_ring 9 = .ok (.istore_n 2, 1) := by decide +kernel
theorem dX7_ring_10 : decode cX7_ring 10 = .ok (.iload_n 2, 1) := by decide +kernel
theorem dX7_ring_11 : decode cX7_ring 11 = .ok (.aload_n 0, 1) := by decide +kernel
theorem dX7_ring_12 : decode cX7_ring 12 = .ok (.getfield 71, 3) := by decide +kernel
theorem dX7_ring_15 : decode cX7_ring 15 = .ok (.if_icmp .ge 28, 3) := by decide +kernel
theorem dX7_ring_18 : decode cX7_ring 18 = .ok (.aload_n 0, 1) := by decide +kernel
theorem dX7_ring_19 : decode cX7_ring 19 = .ok (.getfield 65, 3) := by decide +kernel
theorem dX7_ring_22 : decode cX7_ring 22 = .ok (.iload_n 2, 1) := by decide +kernel
theorem dX7_ring_23 : decode cX7_ring 23 = .ok (.aload_n 0, 1) := by decide +kernel
theorem dX7_ring_24 : decode cX7_ring 24 = .ok (.getfield 74, 3) := by decide +kernel
theorem dX7_ring_27 : decode cX7_ring 27 = .ok (.iadd, 1) := by decide +kernel
theorem dX7_ring_28 : decode cX7_ring 28 = .ok (.aload_n 0, 1) := by decide +kernel
theorem dX7_ring_29 : decode cX7_ring 29 = .ok (.getfield 71, 3) := by decide +kernel
theorem dX7_ring_32 : decode cX7_ring 32 = .ok (.irem, 1) := by decide +kernel
theorem dX7_ring_33 : decode cX7_ring 33 = .ok (.aload_n 1, 1) := by decide +kernel
theorem dX7_ring_34 : decode cX7_ring 34 = .ok (.iload_n 2, 1) := by decide +kernel
theorem dX7_ring_35 : decode cX7_ring 35 = .ok (.iaload, 1) := by decide +kernel
theorem dX7_ring_36 : decode cX7_ring 36 = .ok (.iastore, 1) := by decide +kernel
theorem dX7_ring_37 : decode cX7_ring 37 = .ok (.iinc 2 1, 3) := by decide +kernel
theorem dX7_ring_40 : decode cX7_ring 40 = .ok (.goto (-30), 3) := by decide +kernel
theorem dX7_ring_43 : decode cX7_ring 43 = .ok (.iconst 0, 1) := by decide +kernel
theorem dX7_ring_44 : decode cX7_ring 44 = .ok (.istore_n 2, 1) := by decide +kernel
theorem dX7_ring_45 : decode cX7_ring 45 = .ok (.iload_n 2, 1) := by decide +kernel
theorem dX7_ring_46 : decode cX7_ring 46 = .ok (.aload_n 0, 1) := by decide +kernel
theorem dX7_ring_47 : decode cX7_ring 47 = .ok (.getfield 71, 3) := by decide +kernel
theorem dX7_ring_50 : decode cX7_ring 50 = .ok (.if_icmp .ge 18, 3) := by decide +kernel
theorem dX7_ring_53 : decode cX7_ring 53 = .ok (.aload_n 1, 1) := by decide +kernel
theorem dX7_ring_54 : decode cX7_ring 54 = .ok (.iload_n 2, 1) := by decide +kernel
theorem dX7_ring_55 : decode cX7_ring 55 = .ok (.aload_n 0, 1) := by decide +kernel
theorem dX7_ring_56 : decode cX7_ring 56 = .ok (.getfield 65, 3) := by decide +kernel
theorem dX7_ring_59 : decode cX7_ring 59 = .ok (.iload_n 2, 1) := by decide +kernel
theorem dX7_ring_60 : decode cX7_ring 60 = .ok (.iaload, 1) := by decide +kernel
theorem dX7_ring_61 : decode cX7_ring 61 = .ok (.iastore, 1) := by decide +kernel
theorem dX7_ring_62 : decode cX7_ring 62 = .ok (.iinc 2 1, 3) := by decide +kernel
theorem dX7_ring_65 : decode cX7_ring 65 = .ok (.goto (-20), 3) := by decide +kernel
theorem dX7_ring_68 : decode cX7_ring 68 = .ok (.iconst 0, 1) := by decide +kernel
theorem dX7_ring_69 : decode cX7_ring 69 = .ok (.istore_n 2, 1) := by decide +kernel
theorem dX7_ring_70 : decode cX7_ring 70 = .ok (.iload_n 2, 1) := by decide +kernel
theorem dX7_ring_71 : decode cX7_ring 71 = .ok (.aload_n 0, 1) := by decide +kernel
theorem dX7_ring_72 : decode cX7_ring 72 = .ok (.getfield 126, 3) := by decide +kernel
theorem dX7_ring_75 : decode cX7_ring 75 = .ok (.if_icmp .ge 42, 3) := by decide +kernel
theorem dX7_ring_78 : decode cX7_ring 78 = .ok (.aload_n 0, 1) := by decide +kernel
theorem dX7_ring_79 : decode cX7_ring 79 = .ok (.getfield 37, 3) := by decide +kernel
theorem dX7_ring_82 : decode cX7_ring 82 = .ok (.iconst 2, 1) := by decide +kernel
theorem dX7_ring_83 : decode cX7_ring 83 = .ok (.iload_n 2, 1) := by decide +kernel
theorem dX7_ring_84 : decode cX7_ring 84 = .ok (.imul, 1) := by decide +kernel
theorem dX7_ring_85 : decode cX7_ring 85 = .ok (.iaload, 1) := by decide +kernel
theorem dX7_ring_86 : decode cX7_ring 86 = .ok (.aload_n 1, 1) := by decide +kernel
theorem dX7_ring_87 : decode cX7_ring 87 = .ok (.bipush 18, 2) := by decide +kernel
theorem dX7_ring_89 : decode cX7_ring 89 = .ok (.iaload, 1) := by decide +kernel
theorem dX7_ring_90 : decode cX7_ring 90 = .ok (.if_icmp .ne 21, 3) := by decide +kernel
theorem dX7_ring_93 : decode cX7_ring 93 = .ok (.aload_n 1, 1) := by decide +kernel
theorem dX7_ring_94 : decode cX7_ring 94 = .ok (.bipush 12, 2) := by decide +kernel
theorem dX7_ring_96 : decode cX7_ring 96 = .ok (.aload_n 1, 1) := by decide +kernel
theorem dX7_ring_97 : decode cX7_ring 97 = .ok (.aload_n 0, 1) := by decide +kernel
theorem dX7_ring_98 : decode cX7_ring 98 = .ok (.getfield 37, 3) := by decide +kernel
theorem dX7_ring_101 : decode cX7_ring 101 = .ok (.iconst 2, 1) := by decide +kernel
theorem dX7_ring_102 : decode cX7_ring 102 = .ok (.iload_n 2, 1) := by decide +kernel
theorem dX7_ring_103 : decode cX7_ring 103 = .ok (.imul, 1) := by decide +kernel
theorem dX7_ring_104 : decode cX7_ring 104 = .ok (.iconst 1, 1) := by decide +kernel
theorem dX7_ring_105 : decode cX7_ring 105 = .ok (.iadd, 1) := by decide +kernel
theorem dX7_ring_106 : decode cX7_ring 106 = .ok (.iaload, 1) := by decide +kernel
theorem dX7_ring_107 : decode cX7_ring 107 = .ok (.iaload, 1) := by decide +kernel
theorem dX7_ring_108 : decode cX7_ring 108 = .ok (.iadd, 1) := by decide +kernel
theorem dX7_ring_109 : decode cX7_ring 109 = .ok (.iconst 0, 1) := by decide +kernel
theorem dX7_ring_110 : decode cX7_ring 110 = .ok (.iastore, 1) := by decide +kernel
theorem dX7_ring_111 : decode cX7_ring 111 = .ok (.iinc 2 1, 3) := by decide +kernel
theorem dX7_ring_114 : decode cX7_ring 114 = .ok (.goto (-44), 3) := by decide +kernel
theorem dX7_ring_117 : decode cX7_ring 117 = .ok (.aload_n 0, 1) := by decide +kernel
theorem dX7_ring_118 : decode cX7_ring 118 = .ok (.getfield 55, 3) := by decide +kernel
theorem dX7_ring_121 : decode cX7_ring 121 = .ok (.aload_n 1, 1) := by decide +kernel
theorem dX7_ring_122 : decode cX7_ring 122 = .ok (.bipush 18, 2) := by decide +kernel
theorem dX7_ring_124 : decode cX7_ring 124 = .ok (.iaload, 1) := by decide +kernel
theorem dX7_ring_125 : decode cX7_ring 125 = .ok (.if_icmp .ne 15, 3) := by decide +kernel
theorem dX7_ring_128 : decode cX7_ring 128 = .ok (.aload_n 1, 1) := by decide +kernel
theorem dX7_ring_129 : decode cX7_ring 129 = .ok (.bipush 12, 2) := by decide +kernel
theorem dX7_ring_131 : decode cX7_ring 131 = .ok (.aload_n 1, 1) := by decide +kernel
theorem dX7_ring_132 : decode cX7_ring 132 = .ok (.aload_n 0, 1) := by decide +kernel
theorem dX7_ring_133 : decode cX7_ring 133 = .ok (.getfield 59, 3) := by decide +kernel
theorem dX7_ring_136 : decode cX7_ring 136 = .ok (.iaload, 1) := by decide +kernel
theorem dX7_ring_137 : decode cX7_ring 137 = .ok (.iadd, 1) := by decide +kernel
theorem dX7_ring_138 : decode cX7_ring 138 = .ok (.iconst 0, 1) := by decide +kernel
theorem dX7_ring_139 : decode cX7_ring 139 = .ok (.iastore, 1) := by decide +kernel
theorem dX7_ring_140 : decode cX7_ring 140 = .ok (.iconst 0, 1) := by decide +kernel
theorem dX7_ring_141 : decode cX7_ring 141 = .ok (.istore_n 2, 1) := by decide +kernel
theorem dX7_ring_142 : decode cX7_ring 142 = .ok (.iload_n 2, 1) := by decide +kernel
theorem dX7_ring_143 : decode cX7_ring 143 = .ok (.aload_n 0, 1) := by decide +kernel
theorem dX7_ring_144 : decode cX7_ring 144 = .ok (.getfield 71, 3) := by decide +kernel
theorem dX7_ring_147 : decode cX7_ring 147 = .ok (.if_icmp .ge 49, 3) := by decide +kernel
theorem dX7_ring_150 : decode cX7_ring 150 = .ok (.aload_n 1, 1) := by decide +kernel
theorem dX7_ring_151 : decode cX7_ring 151 = .ok (.bipush 6, 2) := by decide +kernel
theorem dX7_ring_153 : decode cX7_ring 153 = .ok (.iload_n 2, 1) := by decide +kernel
theorem dX7_ring_154 : decode cX7_ring 154 = .ok (.iadd, 1) := by decide +kernel
theorem dX7_ring_155 : decode cX7_ring 155 = .ok (.dup2, 1) := by decide +kernel
theorem dX7_ring_156 : decode cX7_ring 156 = .ok (.iaload, 1) := by decide +kernel
theorem dX7_ring_157 : decode cX7_ring 157 = .ok (.aload_n 1, 1) := by decide +kernel
theorem dX7_ring_158 : decode cX7_ring 158 = .ok (.bipush 12, 2) := by decide +kernel
theorem dX7_ring_160 : decode cX7_ring 160 = .ok (.iload_n 2, 1) := by decide +kernel
theorem dX7_ring_161 : decode cX7_ring 161 = .ok (.iadd, 1) := by decide +kernel
theorem dX7_ring_162 : decode cX7_ring 162 = .ok (.iaload, 1) := by decide +kernel
theorem dX7_ring_163 : decode cX7_ring 163 = .ok (.isub, 1) := by decide +kernel
theorem dX7_ring_164 : decode cX7_ring 164 = .ok (.iastore, 1) := by decide +kernel
theorem dX7_ring_165 : decode cX7_ring 165 = .ok (.aload_n 1, 1) := by decide +kernel
theorem dX7_ring_166 : decode cX7_ring 166 = .ok (.bipush 12, 2) := by decide +kernel
theorem dX7_ring_168 : decode cX7_ring 168 = .ok (.iload_n 2, 1) := by decide +kernel
theorem dX7_ring_169 : decode cX7_ring 169 = .ok (.iadd, 1) := by decide +kernel
theorem dX7_ring_170 : decode cX7_ring 170 = .ok (.aload_n 1, 1) := by decide +kernel
theorem dX7_ring_171 : decode cX7_ring 171 = .ok (.bipush 6, 2) := by decide +kernel
theorem dX7_ring_173 : decode cX7_ring 173 = .ok (.iload_n 2, 1) := by decide +kernel
theorem dX7_ring_174 : decode cX7_ring 174 = .ok (.iadd, 1) := by decide +kernel
theorem dX7_ring_175 : decode cX7_ring 175 = .ok (.iaload, 1) := by decide +kernel
theorem dX7_ring_176 : decode cX7_ring 176 = .ok (.ifCond .ne 7, 3) := by decide +kernel
theorem dX7_ring_179 : decode cX7_ring 179 = .ok (.iconst 0, 1) := by decide +kernel
theorem dX7_ring_180 : decode cX7_ring 180 = .ok (.goto 9, 3) := by decide +kernel
theorem dX7_ring_183 : decode cX7_ring 183 = .ok (.aload_n 1, 1) := by decide +kernel
theorem dX7_ring_184 : decode cX7_ring 184 = .ok (.bipush 12, 2) := by decide +kernel
theorem dX7_ring_186 : decode cX7_ring 186 = .ok (.iload_n 2, 1) := by decide +kernel
theorem dX7_ring_187 : decode cX7_ring 187 = .ok (.iadd, 1) := by decide +kernel
theorem dX7_ring_188 : decode cX7_ring 188 = .ok (.iaload, 1) := by decide +kernel
theorem dX7_ring_189 : decode cX7_ring 189 = .ok (.iastore, 1) := by decide +kernel
theorem dX7_ring_190 : decode cX7_ring 190 = .ok (.iinc 2 1, 3) := by decide +kernel
theorem dX7_ring_193 : decode cX7_ring 193 = .ok (.goto (-51), 3) := by decide +kernel
theorem dX7_ring_196 : decode cX7_ring 196 = .ok (.return_, 1) := by decide +kernel
set_option maxRecDepth 20000 in
theorem ggX7_triedIn_X7_copy : GoodIn wsX7_triedIn wsX7_copy := goodIn_r _ [6] (by decide +kernel) (by decide +kernel)
set_option maxRecDepth 20000 in
theorem gX7_triedIn_X7_copy : GoodIn wsX7_triedIn (va_wsS RX7 141 yX7_copy wsX7_copy) := goodIn_app (goodIn_of _ (by decide +kernel)) ggX7_triedIn_X7_copy
set_option maxRecDepth 20000 in
theorem ggX7_triedIn_X7_ring : GoodIn wsX7_triedIn wsX7_ring := goodIn_r _ [10, 11, 12, 13, 14, 15, 16, 17, 18, 19, 20, 21, 22, 23, 24, 25, 26, 27, 28, 29, 30, 31, 32, 33, 34, 35, 36, 37, 38, 39, 40, 41, 42, 43, 44, 45, 46, 47, 48, 49, 50, 51, 52] (by decide +kernel) (by decide +kernel)
set_option maxRecDepth 20000 in
theorem gX7_triedIn_X7_ring : GoodIn wsX7_triedIn (wsV RX7 145 RX7 yX7_ring wsX7_ring) := goodIn_app (goodIn_of _ (by decide +kernel)) ggX7_triedIn_X7_ring
theorem dX7_triedIn_0 : decode cX7_triedIn 0 = .ok (.aload_n 0, 1) := by decide +kernel
theorem dX7_triedIn_1 : decode cX7_triedIn 1 = .ok (.getfield 40, 3) := by decide +kernel
theorem dX7_triedIn_4 : decode cX7_triedIn 4 = .ok (.iconst 0, 1) := by decide +kernel
theorem dX7_triedIn_5 : decode cX7_triedIn 5 = .ok (.aload_n 0, 1) := by decide +kernel
theorem dX7_triedIn_6 : decode cX7_triedIn 6 = .ok (.getfield 43, 3) := by decide +kernel
theorem dX7_triedIn_9 : decode cX7_triedIn 9 = .ok (.iconst 0, 1) := by decide +kernel
theorem dX7_triedIn_10 : decode cX7_triedIn 10 = .ok (.invokestatic 141, 3) := by decide +kernel
theorem dX7_triedIn_13 : decode cX7_triedIn 13 = .ok (.iconst 0, 1) := by decide +kernel
theorem dX7_triedIn_14 : decode cX7_triedIn 14 = .ok (.istore_n 2, 1) := by decide +kernel
theorem dX7_triedIn_15 : decode cX7_triedIn 15 = .ok (.iload_n 2, 1) := by decide +kernel
theorem dX7_triedIn_16 : decode cX7_triedIn 16 = .ok (.iload_n 1, 1) := by decide +kernel
theorem dX7_triedIn_17 : decode cX7_triedIn 17 = .ok (.if_icmp .ge 17, 3) := by decide +kernel
theorem dX7_triedIn_20 : decode cX7_triedIn 20 = .ok (.aload_n 0, 1) := by decide +kernel
theorem dX7_triedIn_21 : decode cX7_triedIn 21 = .ok (.aload_n 0, 1) := by decide +kernel
theorem dX7_triedIn_22 : decode cX7_triedIn 22 = .ok (.getfield 43, 3) := by decide +kernel
theorem dX7_triedIn_25 : decode cX7_triedIn 25 = .ok (.invokevirtual 145, 3) := by decide +kernel
theorem dX7_triedIn_28 : decode cX7_triedIn 28 = .ok (.iinc 2 1, 3) := by decide +kernel
theorem dX7_triedIn_31 : decode cX7_triedIn 31 = .ok (.goto (-16), 3) := by decide +kernel
theorem dX7_triedIn_34 : decode cX7_triedIn 34 = .ok (.return_, 1) := by decide +kernel
theorem dX7_isLit_0 : decode cX7_isLit 0 = .ok (.aload_n 1, 1) := by decide +kernel
theorem dX7_isLit_1 : decode cX7_isLit 1 = .ok (.bipush 12, 2) := by decide +kernel
theorem dX7_isLit_3 : decode cX7_isLit 3 = .ok (.aload_n 1, 1) := by decide +kernel
theorem dX7_isLit_4 : decode cX7_isLit 4 = .ok (.iload_n 2, 1) := by decide +kernel
theorem dX7_isLit_5 : decode cX7_isLit 5 = .ok (.iaload, 1) := by decide +kernel
theorem dX7_isLit_6 : decode cX7_isLit 6 = .ok (.iadd, 1) := by decide +kernel
theorem dX7_isLit_7 : decode cX7_isLit 7 = .ok (.iaload, 1) := by decide +kernel
theorem dX7_isLit_8 : decode cX7_isLit 8 = .ok (.iconst 1, 1) := by decide +kernel
theorem dX7_isLit_9 : decode cX7_isLit 9 = .ok (.if_icmp .ne 7, 3) := by decide +kernel
theorem dX7_isLit_12 : decode cX7_isLit 12 = .ok (.iconst 1, 1) := by decide +kernel
theorem dX7_isLit_13 : decode cX7_isLit 13 = .ok (.goto 4, 3) := by decide +kernel
theorem dX7_isLit_16 : decode cX7_isLit 16 = .ok (.iconst 0, 1) := by decide +kernel
theorem dX7_isLit_17 : decode cX7_isLit 17 = .ok (.ireturn, 1) := by decide +kernel
set_option maxRecDepth 20000 in
theorem ggX7_isWarm_X7_isLit : GoodIn wsX7_isWarm wsX7_isLit := goodIn_r _ [9] (by decide +kernel) (by decide +kernel)
set_option maxRecDepth 20000 in
theorem gX7_isWarm_X7_isLit : GoodIn wsX7_isWarm (wsV RX7 148 RX7 yX7_isLit wsX7_isLit) := goodIn_app (goodIn_of _ (by decide +kernel)) ggX7_isWarm_X7_isLit
set_option maxRecDepth 20000 in
theorem ggX7_isWarm_X7_in : GoodIn wsX7_isWarm wsX7_in := goodIn_r _ [12] (by decide +kernel) (by decide +kernel)
set_option maxRecDepth 20000 in
theorem gX7_isWarm_X7_in : GoodIn wsX7_isWarm (va_wsS RX7 84 yX7_in wsX7_in) := goodIn_app (goodIn_of _ (by decide +kernel)) ggX7_isWarm_X7_in
theorem dX7_isWarm_0 : decode cX7_isWarm 0 = .ok (.aload_n 0, 1) := by decide +kernel
theorem dX7_isWarm_1 : decode cX7_isWarm 1 = .ok (.aload_n 1, 1) := by decide +kernel
theorem dX7_isWarm_2 : decode cX7_isWarm 2 = .ok (.iload_n 2, 1) := by decide +kernel
theorem dX7_isWarm_3 : decode cX7_isWarm 3 = .ok (.invokevirtual 148, 3) := by decide +kernel
theorem dX7_isWarm_6 : decode cX7_isWarm 6 = .ok (.ifCond .ne 21, 3) := by decide +kernel
theorem dX7_isWarm_9 : decode cX7_isWarm 9 = .ok (.aload_n 1, 1) := by decide +kernel
theorem dX7_isWarm_10 : decode cX7_isWarm 10 = .ok (.bipush 18, 2) := by decide +kernel
theorem dX7_isWarm_12 : decode cX7_isWarm 12 = .ok (.iaload, 1) := by decide +kernel
theorem dX7_isWarm_13 : decode cX7_isWarm 13 = .ok (.aload_n 0, 1) := by decide +kernel
theorem dX7_isWarm_14 : decode cX7_isWarm 14 = .ok (.getfield 77, 3) := by decide +kernel
theorem dX7_isWarm_17 : decode cX7_isWarm 17 = .ok (.aload_n 0, 1) := by decide +kernel
theorem dX7_isWarm_18 : decode cX7_isWarm 18 = .ok (.getfield 129, 3) := by decide +kernel
theorem dX7_isWarm_21 : decode cX7_isWarm 21 = .ok (.invokestatic 84, 3) := by decide +kernel
theorem dX7_isWarm_24 : decode cX7_isWarm 24 = .ok (.ifCond .eq 7, 3) := by decide +kernel
theorem dX7_isWarm_27 : decode cX7_isWarm 27 = .ok (.iconst 1, 1) := by decide +kernel
theorem dX7_isWarm_28 : decode cX7_isWarm 28 = .ok (.goto 4, 3) := by decide +kernel
theorem dX7_isWarm_31 : decode cX7_isWarm 31 = .ok (.iconst 0, 1) := by decide +kernel
theorem dX7_isWarm_32 : decode cX7_isWarm 32 = .ok (.istore_n 3, 1) := by decide +kernel
theorem dX7_isWarm_33 : decode cX7_isWarm 33 = .ok (.iload_n 2, 1) := by decide +kernel
theorem dX7_isWarm_34 : decode cX7_isWarm 34 = .ok (.aload_n 0, 1) := by decide +kernel
theorem dX7_isWarm_35 : decode cX7_isWarm 35 = .ok (.getfield 62, 3) := by decide +kernel
theorem dX7_isWarm_38 : decode cX7_isWarm 38 = .ok (.if_icmp .ne 7, 3) := by decide +kernel
theorem dX7_isWarm_41 : decode cX7_isWarm 41 = .ok (.iconst 1, 1) := by decide +kernel
theorem dX7_isWarm_42 : decode cX7_isWarm 42 = .ok (.goto 9, 3) := by decide +kernel
theorem dX7_isWarm_45 : decode cX7_isWarm 45 = .ok (.aload_n 0, 1) := by decide +kernel
theorem dX7_isWarm_46 : decode cX7_isWarm 46 = .ok (.getfield 28, 3) := by decide +kernel
theorem dX7_isWarm_49 : decode cX7_isWarm 49 = .ok (.iload_n 2, 1) := by decide +kernel
theorem dX7_isWarm_50 : decode cX7_isWarm 50 = .ok (.iaload, 1) := by decide +kernel
theorem dX7_isWarm_51 : decode cX7_isWarm 51 = .ok (.istore 4, 2) := by decide +kernel
theorem dX7_isWarm_53 : decode cX7_isWarm 53 = .ok (.iload 4, 2) := by decide +kernel
theorem dX7_isWarm_55 : decode cX7_isWarm 55 = .ok (.ifCond .ne 7, 3) := by decide +kernel
theorem dX7_isWarm_58 : decode cX7_isWarm 58 = .ok (.iload_n 3, 1) := by decide +kernel
theorem dX7_isWarm_59 : decode cX7_isWarm 59 = .ok (.goto 18, 3) := by decide +kernel
theorem dX7_isWarm_62 : decode cX7_isWarm 62 = .ok (.iload 4, 2) := by decide +kernel
theorem dX7_isWarm_64 : decode cX7_isWarm 64 = .ok (.iconst 2, 1) := by decide +kernel
theorem dX7_isWarm_65 : decode cX7_isWarm 65 = .ok (.if_icmp .ne 11, 3) := by decide +kernel
theorem dX7_isWarm_68 : decode cX7_isWarm 68 = .ok (.iload_n 3, 1) := by decide +kernel
theorem dX7_isWarm_69 : decode cX7_isWarm 69 = .ok (.ifCond .ne 7, 3) := by decide +kernel
theorem dX7_isWarm_72 : decode cX7_isWarm 72 = .ok (.iconst 1, 1) := by decide +kernel
theorem dX7_isWarm_73 : decode cX7_isWarm 73 = .ok (.goto 4, 3) := by decide +kernel
theorem dX7_isWarm_76 : decode cX7_isWarm 76 = .ok (.iconst 0, 1) := by decide +kernel
theorem dX7_isWarm_77 : decode cX7_isWarm 77 = .ok (.ireturn, 1) := by decide +kernel
theorem dX7_bit_0 : decode cX7_bit 0 = .ok (.iload_n 0, 1) := by decide +kernel
theorem dX7_bit_1 : decode cX7_bit 1 = .ok (.ifCond .eq 7, 3) := by decide +kernel
theorem dX7_bit_4 : decode cX7_bit 4 = .ok (.iconst 1, 1) := by decide +kernel
theorem dX7_bit_5 : decode cX7_bit 5 = .ok (.goto 4, 3) := by decide +kernel
theorem dX7_bit_8 : decode cX7_bit 8 = .ok (.iconst 0, 1) := by decide +kernel
theorem dX7_bit_9 : decode cX7_bit 9 = .ok (.ireturn, 1) := by decide +kernel
set_option maxRecDepth 20000 in
theorem ggX7_lantern_X7_isMan : GoodIn wsX7_lantern wsX7_isMan := goodIn_r _ [8, 1, 9, 10, 7, 11, 15, 16, 17, 18, 19, 20, 21, 22, 23, 24, 25, 26, 27, 28, 29, 30, 31, 32, 33, 34, 35, 36, 37, 38, 39, 40, 41, 42, 43, 44, 45, 46, 47, 48, 49] (by decide +kernel) (by decide +kernel)
set_option maxRecDepth 20000 in
theorem gX7_lantern_X7_isMan : GoodIn wsX7_lantern (wsV RX7 152 RX7 yX7_isMan wsX7_isMan) := goodIn_app (goodIn_of _ (by decide +kernel)) ggX7_lantern_X7_isMan
set_option maxRecDepth 20000 in
theorem ggX7_lantern_X7_in : GoodIn wsX7_lantern wsX7_in := goodIn_r _ [11] (by decide +kernel) (by decide +kernel)
set_option maxRecDepth 20000 in
theorem gX7_lantern_X7_in : GoodIn wsX7_lantern (va_wsS RX7 84 yX7_in wsX7_in) := goodIn_app (goodIn_of _ (by decide +kernel)) ggX7_lantern_X7_in
set_option maxRecDepth 20000 in
theorem ggX7_lantern_X7_bit : GoodIn wsX7_lantern wsX7_bit := goodIn_r _ [14] (by decide +kernel) (by decide +kernel)
set_option maxRecDepth 20000 in
theorem gX7_lantern_X7_bit : GoodIn wsX7_lantern (va_wsS RX7 155 yX7_bit wsX7_bit) := goodIn_app (goodIn_of _ (by decide +kernel)) ggX7_lantern_X7_bit
theorem dX7_lantern_0 : decode cX7_lantern 0 = .ok (.aload_n 0, 1) := by decide +kernel
theorem dX7_lantern_1 : decode cX7_lantern 1 = .ok (.iload_n 1, 1) := by decide +kernel
theorem dX7_lantern_2 : decode cX7_lantern 2 = .ok (.invokevirtual 152, 3) := by decide +kernel
theorem dX7_lantern_5 : decode cX7_lantern 5 = .ok (.ifCond .eq 12, 3) := by decide +kernel
theorem dX7_lantern_8 : decode cX7_lantern 8 = .ok (.iload_n 2, 1) := by decide +kernel
theorem dX7_lantern_9 : decode cX7_lantern 9 = .ok (.iconst 0, 1) := by decide +kernel
theorem dX7_lantern_10 : decode cX7_lantern 10 = .ok (.iconst 3, 1) := by decide +kernel
theorem dX7_lantern_11 : decode cX7_lantern 11 = .ok (.invokestatic 84, 3) := by decide +kernel
theorem dX7_lantern_14 : decode cX7_lantern 14 = .ok (.ifCond .ne 5, 3) := by decide +kernel
theorem dX7_lantern_17 : decode cX7_lantern 17 = .ok (.iconst (-1), 1) := by decide +kernel
theorem dX7_lantern_18 : decode cX7_lantern 18 = .ok (.ireturn, 1) := by decide +kernel
theorem dX7_lantern_19 : decode cX7_lantern 19 = .ok (.iconst 0, 1) := by decide +kernel
theorem dX7_lantern_20 : decode cX7_lantern 20 = .ok (.istore_n 3, 1) := by decide +kernel
theorem dX7_lantern_21 : decode cX7_lantern 21 = .ok (.iconst 0, 1) := by decide +kernel
theorem dX7_lantern_22 : decode cX7_lantern 22 = .ok (.istore 4, 2) := by decide +kernel
theorem dX7_lantern_24 : decode cX7_lantern 24 = .ok (.iload 4, 2) := by decide +kernel
theorem dX7_lantern_26 : decode cX7_lantern 26 = .ok (.aload_n 0, 1) := by decide +kernel
theorem dX7_lantern_27 : decode cX7_lantern 27 = .ok (.getfield 71, 3) := by decide +kernel
theorem dX7_lantern_30 : decode cX7_lantern 30 = .ok (.if_icmp .ge 27, 3) := by decide +kernel
theorem dX7_lantern_33 : decode cX7_lantern 33 = .ok (.aload_n 0, 1) := by decide +kernel
theorem dX7_lantern_34 : decode cX7_lantern 34 = .ok (.getfield 40, 3) := by decide +kernel
theorem dX7_lantern_37 : decode cX7_lantern 37 = .ok (.iload 4, 2) := by decide +kernel
theorem dX7_lantern_39 : decode cX7_lantern 39 = .ok (.iaload, 1) := by decide +kernel
theorem dX7_lantern_40 : decode cX7_lantern 40 = .ok (.iload_n 1, 1) := by decide +kernel
theorem dX7_lantern_41 : decode cX7_lantern 41 = .ok (.if_icmp .ne 8, 3) := by decide +kernel
theorem dX7_lantern_44 : decode cX7_lantern 44 = .ok (.iload 4, 2) := by decide +kernel
theorem dX7_lantern_46 : decode cX7_lantern 46 = .ok (.goto 4, 3) := by decide +kernel
theorem dX7_lantern_49 : decode cX7_lantern 49 = .ok (.iload_n 3, 1) := by decide +kernel
theorem dX7_lantern_50 : decode cX7_lantern 50 = .ok (.istore_n 3, 1) := by decide +kernel
theorem dX7_lantern_51 : decode cX7_lantern 51 = .ok (.iinc 4 1, 3) := by decide +kernel
theorem dX7_lantern_54 : decode cX7_lantern 54 = .ok (.goto (-30), 3) := by decide +kernel
theorem dX7_lantern_57 : decode cX7_lantern 57 = .ok (.iload_n 2, 1) := by decide +kernel
theorem dX7_lantern_58 : decode cX7_lantern 58 = .ok (.ifCond .ne 7, 3) := by decide +kernel
theorem dX7_lantern_61 : decode cX7_lantern 61 = .ok (.iload_n 3, 1) := by decide +kernel
theorem dX7_lantern_62 : decode cX7_lantern 62 = .ok (.goto 54, 3) := by decide +kernel
theorem dX7_lantern_65 : decode cX7_lantern 65 = .ok (.iload_n 2, 1) := by decide +kernel
theorem dX7_lantern_66 : decode cX7_lantern 66 = .ok (.iconst 1, 1) := by decide +kernel
theorem dX7_lantern_67 : decode cX7_lantern 67 = .ok (.if_icmp .ne 15, 3) := by decide +kernel
theorem dX7_lantern_70 : decode cX7_lantern 70 = .ok (.aload_n 0, 1) := by decide +kernel
theorem dX7_lantern_71 : decode cX7_lantern 71 = .ok (.getfield 40, 3) := by decide +kernel
theorem dX7_lantern_74 : decode cX7_lantern 74 = .ok (.bipush 6, 2) := by decide +kernel
theorem dX7_lantern_76 : decode cX7_lantern 76 = .ok (.iload_n 1, 1) := by decide +kernel
theorem dX7_lantern_77 : decode cX7_lantern 77 = .ok (.iadd, 1) := by decide +kernel
theorem dX7_lantern_78 : decode cX7_lantern 78 = .ok (.iaload, 1) := by decide +kernel
theorem dX7_lantern_79 : decode cX7_lantern 79 = .ok (.goto 37, 3) := by decide +kernel
theorem dX7_lantern_82 : decode cX7_lantern 82 = .ok (.iload_n 2, 1) := by decide +kernel
theorem dX7_lantern_83 : decode cX7_lantern 83 = .ok (.iconst 2, 1) := by decide +kernel
theorem dX7_lantern_84 : decode cX7_lantern 84 = .ok (.if_icmp .ne 15, 3) := by decide +kernel
theorem dX7_lantern_87 : decode cX7_lantern 87 = .ok (.aload_n 0, 1) := by decide +kernel
theorem dX7_lantern_88 : decode cX7_lantern 88 = .ok (.getfield 40, 3) := by decide +kernel
theorem dX7_lantern_91 : decode cX7_lantern 91 = .ok (.bipush 12, 2) := by decide +kernel
theorem dX7_lantern_93 : decode cX7_lantern 93 = .ok (.iload_n 1, 1) := by decide +kernel
theorem dX7_lantern_94 : decode cX7_lantern 94 = .ok (.iadd, 1) := by decide +kernel
theorem dX7_lantern_95 : decode cX7_lantern 95 = .ok (.iaload, 1) := by decide +kernel
theorem dX7_lantern_96 : decode cX7_lantern 96 = .ok (.goto 20, 3) := by decide +kernel
theorem dX7_lantern_99 : decode cX7_lantern 99 = .ok (.aload_n 0, 1) := by decide +kernel
theorem dX7_lantern_100 : decode cX7_lantern 100 = .ok (.getfield 31, 3) := by decide +kernel
theorem dX7_lantern_103 : decode cX7_lantern 103 = .ok (.iload_n 1, 1) := by decide +kernel
theorem dX7_lantern_104 : decode cX7_lantern 104 = .ok (.iaload, 1) := by decide +kernel
theorem dX7_lantern_105 : decode cX7_lantern 105 = .ok (.ifCond .ge 7, 3) := by decide +kernel
theorem dX7_lantern_108 : decode cX7_lantern 108 = .ok (.iconst 1, 1) := by decide +kernel
theorem dX7_lantern_109 : decode cX7_lantern 109 = .ok (.goto 4, 3) := by decide +kernel
theorem dX7_lantern_112 : decode cX7_lantern 112 = .ok (.iconst 0, 1) := by decide +kernel
theorem dX7_lantern_113 : decode cX7_lantern 113 = .ok (.invokestatic 155, 3) := by decide +kernel
theorem dX7_lantern_116 : decode cX7_lantern 116 = .ok (.ireturn, 1) := by decide +kernel
set_option maxRecDepth 20000 in
theorem ggX7_post_X7_isMan : GoodIn wsX7_post wsX7_isMan := goodIn_r _ [7, 8, 9, 10, 6, 11, 26, 27, 28, 29, 30, 31, 32, 33, 34, 35, 36, 37, 38, 39, 40, 41, 42, 43, 44, 45, 46, 47, 48, 49, 50, 51, 52, 53, 54, 55, 56, 57, 58, 59, 60] (by decide +kernel) (by decide +kernel)
set_option maxRecDepth 20000 in
theorem gX7_post_X7_isMan : GoodIn wsX7_post (wsV RX7 152 RX7 yX7_isMan wsX7_isMan) := goodIn_app (goodIn_of _ (by decide +kernel)) ggX7_post_X7_isMan
set_option maxRecDepth 20000 in
theorem ggX7_post_X7_in : GoodIn wsX7_post wsX7_in := goodIn_r _ [11] (by decide +kernel) (by decide +kernel)
set_option maxRecDepth 20000 in
theorem gX7_post_X7_in : GoodIn wsX7_post (va_wsS RX7 84 yX7_in wsX7_in) := goodIn_app (goodIn_of _ (by decide +kernel)) ggX7_post_X7_in
set_option maxRecDepth 20000 in
theorem ggX7_post_X7_isWarm : GoodIn wsX7_post wsX7_isWarm := goodIn_r _ [15, 16, 17, 18, 1, 19, 20, 21, 6, 22, 9, 10, 11, 26, 27, 28, 29, 30, 31, 32, 33, 34, 35, 36, 37, 38, 39, 40, 41, 42, 43, 44, 45, 46, 47, 48, 49, 50, 51, 52, 53, 54, 55, 56, 57, 58, 59, 60] (by decide +kernel) (by decide +kernel)
set_option maxRecDepth 20000 in
theorem gX7_post_X7_isWarm : GoodIn wsX7_post (wsV RX7 159 RX7 yX7_isWarm wsX7_isWarm) := goodIn_app (goodIn_of _ (by decide +kernel)) ggX7_post_X7_isWarm
set_option maxRecDepth 20000 in
theorem ggX7_post_X7_bit : GoodIn wsX7_post wsX7_bit := goodIn_r _ [25] (by decide +kernel) (by decide +kernel)
set_option maxRecDepth 20000 in
theorem gX7_post_X7_bit : GoodIn wsX7_post (va_wsS RX7 155 yX7_bit wsX7_bit) := goodIn_app (goodIn_of _ (by decide +kernel)) ggX7_post_X7_bit
theorem dX7_post_0 : decode cX7_post 0 = .ok (.aload_n 0, 1) := by decide +kernel
theorem dX7_post_1 : decode cX7_post 1 = .ok (.iload_n 1, 1) := by decide +kernel
theorem dX7_post_2 : decode cX7_post 2 = .ok (.invokevirtual 152, 3) := by decide +kernel
theorem dX7_post_5 : decode cX7_post 5 = .ok (.ifCond .eq 12, 3) := by decide +kernel
theorem dX7_post_8 : decode cX7_post 8 = .ok (.iload_n 2, 1) := by decide +kernel
theorem dX7_post_9 : decode cX7_post 9 = .ok (.iconst 0, 1) := by decide +kernel
theorem dX7_post_10 : decode cX7_post 10 = .ok (.iconst 2, 1) := by decide +kernel
theorem dX7_post_11 : decode cX7_post 11 = .ok (.invokestatic 84, 3) := by decide +kernel
theorem dX7_post_14 : decode cX7_post 14 = .ok (.ifCond .ne 5, 3) := by decide +kernel
theorem dX7_post_17 : decode cX7_post 17 = .ok (.iconst (-1), 1) := by decide +kernel
theorem dX7_post_18 : decode cX7_post 18 = .ok (.ireturn, 1) := by decide +kernel
theorem dX7_post_19 : decode cX7_post 19 = .ok (.iload_n 2, 1) := by decide +kernel
theorem dX7_post_20 : decode cX7_post 20 = .ok (.ifCond .ne 12, 3) := by decide +kernel
theorem dX7_post_23 : decode cX7_post 23 = .ok (.aload_n 0, 1) := by decide +kernel
theorem dX7_post_24 : decode cX7_post 24 = .ok (.getfield 28, 3) := by decide +kernel
theorem dX7_post_27 : decode cX7_post 27 = .ok (.iload_n 1, 1) := by decide +kernel
theorem dX7_post_28 : decode cX7_post 28 = .ok (.iaload, 1) := by decide +kernel
theorem dX7_post_29 : decode cX7_post 29 = .ok (.goto 29, 3) := by decide +kernel
theorem dX7_post_32 : decode cX7_post 32 = .ok (.iload_n 2, 1) := by decide +kernel
theorem dX7_post_33 : decode cX7_post 33 = .ok (.iconst 1, 1) := by decide +kernel
theorem dX7_post_34 : decode cX7_post 34 = .ok (.if_icmp .ne 12, 3) := by decide +kernel
theorem dX7_post_37 : decode cX7_post 37 = .ok (.aload_n 0, 1) := by decide +kernel
theorem dX7_post_38 : decode cX7_post 38 = .ok (.getfield 40, 3) := by decide +kernel
theorem dX7_post_41 : decode cX7_post 41 = .ok (.iload_n 1, 1) := by decide +kernel
theorem dX7_post_42 : decode cX7_post 42 = .ok (.iaload, 1) := by decide +kernel
theorem dX7_post_43 : decode cX7_post 43 = .ok (.goto 15, 3) := by decide +kernel
theorem dX7_post_46 : decode cX7_post 46 = .ok (.aload_n 0, 1) := by decide +kernel
theorem dX7_post_47 : decode cX7_post 47 = .ok (.aload_n 0, 1) := by decide +kernel
theorem dX7_post_48 : decode cX7_post 48 = .ok (.getfield 40, 3) := by decide +kernel
theorem dX7_post_51 : decode cX7_post 51 = .ok (.iload_n 1, 1) := by decide +kernel
theorem dX7_post_52 : decode cX7_post 52 = .ok (.invokevirtual 159, 3) := by decide +kernel
theorem dX7_post_55 : decode cX7_post 55 = .ok (.invokestatic 155, 3) := by decide +kernel
theorem dX7_post_58 : decode cX7_post 58 = .ok (.ireturn, 1) := by decide +kernel
set_option maxRecDepth 20000 in
theorem ggX7_note_X7_copy : GoodIn wsX7_note wsX7_copy := goodIn_r _ [7] (by decide +kernel) (by decide +kernel)
set_option maxRecDepth 20000 in
theorem gX7_note_X7_copy : GoodIn wsX7_note (va_wsS RX7 141 yX7_copy wsX7_copy) := goodIn_app (goodIn_of _ (by decide +kernel)) ggX7_note_X7_copy
theorem dX7_note_0 : decode cX7_note 0 = .ok (.aload_n 0, 1) := by decide +kernel
theorem dX7_note_1 : decode cX7_note 1 = .ok (.getfield 135, 3) := by decide +kernel
theorem dX7_note_4 : decode cX7_note 4 = .ok (.bipush 8, 2) := by decide +kernel
theorem dX7_note_6 : decode cX7_note 6 = .ok (.if_icmp .ne 43, 3) := by decide +kernel
theorem dX7_note_9 : decode cX7_note 9 = .ok (.iconst 0, 1) := by decide +kernel
theorem dX7_note_10 : decode cX7_note 10 = .ok (.istore_n 1, 1) := by decide +kernel
theorem dX7_note_11 : decode cX7_note 11 = .ok (.iload_n 1, 1) := by decide +kernel
theorem dX7_note_12 : decode cX7_note 12 = .ok (.sipush 133, 3) := by decide +kernel
theorem dX7_note_15 : decode cX7_note 15 = .ok (.if_icmp .ge 24, 3) := by decide +kernel
theorem dX7_note_18 : decode cX7_note 18 = .ok (.aload_n 0, 1) := by decide +kernel
theorem dX7_note_19 : decode cX7_note 19 = .ok (.getfield 46, 3) := by decide +kernel
theorem dX7_note_22 : decode cX7_note 22 = .ok (.iload_n 1, 1) := by decide +kernel
theorem dX7_note_23 : decode cX7_note 23 = .ok (.aload_n 0, 1) := by decide +kernel
theorem dX7_note_24 : decode cX7_note 24 = .ok (.getfield 46, 3) := by decide +kernel
theorem dX7_note_27 : decode cX7_note 27 = .ok (.iload_n 1, 1) := by decide +kernel
theorem dX7_note_28 : decode cX7_note 28 = .ok (.bipush 19, 2) := by decide +kernel
theorem dX7_note_30 : decode cX7_note 30 = .ok (.iadd, 1) := by decide +kernel
theorem dX7_note_31 : decode cX7_note 31 = .ok (.iaload, 1) := by decide +kernel
theorem dX7_note_32 : decode cX7_note 32 = .ok (.iastore, 1) := by decide +kernel
theorem dX7_note_33 : decode cX7_note 33 = .ok (.iinc 1 1, 3) := by decide +kernel
theorem dX7_note_36 : decode cX7_note 36 = .ok (.goto (-25), 3) := by decide +kernel
theorem dX7_note_39 : decode cX7_note 39 = .ok (.aload_n 0, 1) := by decide +kernel
theorem dX7_note_40 : decode cX7_note 40 = .ok (.dup, 1) := by decide +kernel
theorem dX7_note_41 : decode cX7_note 41 = .ok (.getfield 135, 3) := by decide +kernel
theorem dX7_note_44 : decode cX7_note 44 = .ok (.iconst 1, 1) := by decide +kernel
theorem dX7_note_45 : decode cX7_note 45 = .ok (.isub, 1) := by decide +kernel
theorem dX7_note_46 : decode cX7_note 46 = .ok (.putfield 135, 3) := by decide +kernel
theorem dX7_note_49 : decode cX7_note 49 = .ok (.aload_n 0, 1) := by decide +kernel
theorem dX7_note_50 : decode cX7_note 50 = .ok (.getfield 40, 3) := by decide +kernel
theorem dX7_note_53 : decode cX7_note 53 = .ok (.iconst 0, 1) := by decide +kernel
theorem dX7_note_54 : decode cX7_note 54 = .ok (.aload_n 0, 1) := by decide +kernel
theorem dX7_note_55 : decode cX7_note 55 = .ok (.getfield 46, 3) := by decide +kernel
theorem dX7_note_58 : decode cX7_note 58 = .ok (.bipush 19, 2) := by decide +kernel
theorem dX7_note_60 : decode cX7_note 60 = .ok (.aload_n 0, 1) := by decide +kernel
theorem dX7_note_61 : decode cX7_note 61 = .ok (.getfield 135, 3) := by decide +kernel
theorem dX7_note_64 : decode cX7_note 64 = .ok (.imul, 1) := by decide +kernel
theorem dX7_note_65 : decode cX7_note 65 = .ok (.invokestatic 141, 3) := by decide +kernel
theorem dX7_note_68 : decode cX7_note 68 = .ok (.aload_n 0, 1) := by decide +kernel
theorem dX7_note_69 : decode cX7_note 69 = .ok (.dup, 1) := by decide +kernel
theorem dX7_note_70 : decode cX7_note 70 = .ok (.getfield 135, 3) := by decide +kernel
theorem dX7_note_73 : decode cX7_note 73 = .ok (.iconst 1, 1) := by decide +kernel
theorem dX7_note_74 : decode cX7_note 74 = .ok (.iadd, 1) := by decide +kernel
theorem dX7_note_75 : decode cX7_note 75 = .ok (.putfield 135, 3) := by decide +kernel
theorem dX7_note_78 : decode cX7_note 78 = .ok (.return_, 1) := by decide +kernel
set_option maxRecDepth 20000 in
theorem ggX7_fill_X7_isMan : GoodIn wsX7_fill wsX7_isMan := goodIn_r _ [7, 8, 9, 10, 6, 11, 21, 22, 23, 24, 25, 26, 27, 28, 29, 30, 31, 32, 33, 34, 35, 36, 37, 38, 39, 40, 41, 42, 43, 44, 45, 46, 47, 48, 49, 50, 51, 52, 53, 54, 55] (by decide +kernel) (by decide +kernel)
set_option maxRecDepth 20000 in
theorem gX7_fill_X7_isMan : GoodIn wsX7_fill (wsV RX7 152 RX7 yX7_isMan wsX7_isMan) := goodIn_app (goodIn_of _ (by decide +kernel)) ggX7_fill_X7_isMan
set_option maxRecDepth 20000 in
theorem ggX7_fill_X7_in : GoodIn wsX7_fill wsX7_in := goodIn_r _ [11] (by decide +kernel) (by decide +kernel)
set_option maxRecDepth 20000 in
theorem gX7_fill_X7_in : GoodIn wsX7_fill (va_wsS RX7 84 yX7_in wsX7_in) := goodIn_app (goodIn_of _ (by decide +kernel)) ggX7_fill_X7_in
set_option maxRecDepth 20000 in
theorem ggX7_fill_X7_note : GoodIn wsX7_fill wsX7_note := goodIn_r _ [15, 16, 17, 2, 18, 19, 6, 20, 21, 22, 23, 24, 25, 26, 27, 28, 29, 30, 31, 32, 33, 34, 35, 36, 37, 38, 39, 40, 41, 42, 43, 44, 45, 46, 47, 48, 49, 50, 51, 52, 53, 54, 55] (by decide +kernel) (by decide +kernel)
set_option maxRecDepth 20000 in
theorem gX7_fill_X7_note : GoodIn wsX7_fill (wsV RX7 162 RX7 yX7_note wsX7_note) := goodIn_app (goodIn_of _ (by decide +kernel)) ggX7_fill_X7_note
theorem dX7_fill_0 : decode cX7_fill 0 = .ok (.aload_n 0, 1) := by decide +kernel
theorem dX7_fill_1 : decode cX7_fill 1 = .ok (.iload_n 1, 1) := by decide +kernel
theorem dX7_fill_2 : decode cX7_fill 2 = .ok (.invokevirtual 152, 3) := by decide +kernel
theorem dX7_fill_5 : decode cX7_fill 5 = .ok (.ifCond .eq 13, 3) := by decide +kernel
theorem dX7_fill_8 : decode cX7_fill 8 = .ok (.iload_n 2, 1) := by decide +kernel
theorem dX7_fill_9 : decode cX7_fill 9 = .ok (.iconst 1, 1) := by decide +kernel
theorem dX7_fill_10 : decode cX7_fill 10 = .ok (.bipush 40, 2) := by decide +kernel
theorem dX7_fill_12 : decode cX7_fill 12 = .ok (.invokestatic 84, 3) := by decide +kernel
theorem dX7_fill_15 : decode cX7_fill 15 = .ok (.ifCond .ne 5, 3) := by decide +kernel
theorem dX7_fill_18 : decode cX7_fill 18 = .ok (.iconst (-1), 1) := by decide +kernel
theorem dX7_fill_19 : decode cX7_fill 19 = .ok (.ireturn, 1) := by decide +kernel
theorem dX7_fill_20 : decode cX7_fill 20 = .ok (.aload_n 0, 1) := by decide +kernel
theorem dX7_fill_21 : decode cX7_fill 21 = .ok (.getfield 31, 3) := by decide +kernel
theorem dX7_fill_24 : decode cX7_fill 24 = .ok (.iload_n 1, 1) := by decide +kernel
theorem dX7_fill_25 : decode cX7_fill 25 = .ok (.iaload, 1) := by decide +kernel
theorem dX7_fill_26 : decode cX7_fill 26 = .ok (.ifCond .lt 19, 3) := by decide +kernel
theorem dX7_fill_29 : decode cX7_fill 29 = .ok (.aload_n 0, 1) := by decide +kernel
theorem dX7_fill_30 : decode cX7_fill 30 = .ok (.getfield 40, 3) := by decide +kernel
theorem dX7_fill_33 : decode cX7_fill 33 = .ok (.bipush 6, 2) := by decide +kernel
theorem dX7_fill_35 : decode cX7_fill 35 = .ok (.iload_n 1, 1) := by decide +kernel
theorem dX7_fill_36 : decode cX7_fill 36 = .ok (.iadd, 1) := by decide +kernel
theorem dX7_fill_37 : decode cX7_fill 37 = .ok (.iaload, 1) := by decide +kernel
theorem dX7_fill_38 : decode cX7_fill 38 = .ok (.iload_n 2, 1) := by decide +kernel
theorem dX7_fill_39 : decode cX7_fill 39 = .ok (.iadd, 1) := by decide +kernel
theorem dX7_fill_40 : decode cX7_fill 40 = .ok (.bipush 99, 2) := by decide +kernel
theorem dX7_fill_42 : decode cX7_fill 42 = .ok (.if_icmp .le 6, 3) := by decide +kernel
theorem dX7_fill_45 : decode cX7_fill 45 = .ok (.bipush (-2), 2) := by decide +kernel
theorem dX7_fill_47 : decode cX7_fill 47 = .ok (.ireturn, 1) := by decide +kernel
theorem dX7_fill_48 : decode cX7_fill 48 = .ok (.aload_n 0, 1) := by decide +kernel
theorem dX7_fill_49 : decode cX7_fill 49 = .ok (.invokevirtual 162, 3) := by decide +kernel
theorem dX7_fill_52 : decode cX7_fill 52 = .ok (.aload_n 0, 1) := by decide +kernel
theorem dX7_fill_53 : decode cX7_fill 53 = .ok (.getfield 40, 3) := by decide +kernel
theorem dX7_fill_56 : decode cX7_fill 56 = .ok (.bipush 6, 2) := by decide +kernel
theorem dX7_fill_58 : decode cX7_fill 58 = .ok (.iload_n 1, 1) := by decide +kernel
theorem dX7_fill_59 : decode cX7_fill 59 = .ok (.iadd, 1) := by decide +kernel
theorem dX7_fill_60 : decode cX7_fill 60 = .ok (.dup2, 1) := by decide +kernel
theorem dX7_fill_61 : decode cX7_fill 61 = .ok (.iaload, 1) := by decide +kernel
theorem dX7_fill_62 : decode cX7_fill 62 = .ok (.iload_n 2, 1) := by decide +kernel
theorem dX7_fill_63 : decode cX7_fill 63 = .ok (.iadd, 1) := by decide +kernel
theorem dX7_fill_64 : decode cX7_fill 64 = .ok (.iastore, 1) := by decide +kernel
theorem dX7_fill_65 : decode cX7_fill 65 = .ok (.aload_n 0, 1) := by decide +kernel
theorem dX7_fill_66 : decode cX7_fill 66 = .ok (.getfield 40, 3) := by decide +kernel
theorem dX7_fill_69 : decode cX7_fill 69 = .ok (.bipush 6, 2) := by decide +kernel
theorem dX7_fill_71 : decode cX7_fill 71 = .ok (.iload_n 1, 1) := by decide +kernel
theorem dX7_fill_72 : decode cX7_fill 72 = .ok (.iadd, 1) := by decide +kernel
theorem dX7_fill_73 : decode cX7_fill 73 = .ok (.iaload, 1) := by decide +kernel
theorem dX7_fill_74 : decode cX7_fill 74 = .ok (.ireturn, 1) := by decide +kernel
theorem dX7_litOf_0 : decode cX7_litOf 0 = .ok (.iconst 0, 1) := by decide +kernel
theorem dX7_litOf_1 : decode cX7_litOf 1 = .ok (.istore_n 2, 1) := by decide +kernel
theorem dX7_litOf_2 : decode cX7_litOf 2 = .ok (.iconst 0, 1) := by decide +kernel
theorem dX7_litOf_3 : decode cX7_litOf 3 = .ok (.istore_n 3, 1) := by decide +kernel
theorem dX7_litOf_4 : decode cX7_litOf 4 = .ok (.iload_n 3, 1) := by decide +kernel
theorem dX7_litOf_5 : decode cX7_litOf 5 = .ok (.aload_n 0, 1) := by decide +kernel
theorem dX7_litOf_6 : decode cX7_litOf 6 = .ok (.getfield 71, 3) := by decide +kernel
theorem dX7_litOf_9 : decode cX7_litOf 9 = .ok (.if_icmp .ge 18, 3) := by decide +kernel
theorem dX7_litOf_12 : decode cX7_litOf 12 = .ok (.iload_n 2, 1) := by decide +kernel
theorem dX7_litOf_13 : decode cX7_litOf 13 = .ok (.aload_n 1, 1) := by decide +kernel
theorem dX7_litOf_14 : decode cX7_litOf 14 = .ok (.bipush 12, 2) := by decide +kernel
theorem dX7_litOf_16 : decode cX7_litOf 16 = .ok (.iload_n 3, 1) := by decide +kernel
theorem dX7_litOf_17 : decode cX7_litOf 17 = .ok (.iadd, 1) := by decide +kernel
theorem dX7_litOf_18 : decode cX7_litOf 18 = .ok (.iaload, 1) := by decide +kernel
theorem dX7_litOf_19 : decode cX7_litOf 19 = .ok (.iadd, 1) := by decide +kernel
theorem dX7_litOf_20 : decode cX7_litOf 20 = .ok (.istore_n 2, 1) := by decide +kernel
theorem dX7_litOf_21 : decode cX7_litOf 21 = .ok (.iinc 3 1, 3) := by decide +kernel
theorem dX7_litOf_24 : decode cX7_litOf 24 = .ok (.goto (-20), 3) := by decide +kernel
theorem dX7_litOf_27 : decode cX7_litOf 27 = .ok (.iload_n 2, 1) := by decide +kernel
theorem dX7_litOf_28 : decode cX7_litOf 28 = .ok (.ireturn, 1) := by decide +kernel
theorem dX7_oilOf_0 : decode cX7_oilOf 0 = .ok (.iconst 0, 1) := by decide +kernel
theorem dX7_oilOf_1 : decode cX7_oilOf 1 = .ok (.istore_n 2, 1) := by decide +kernel
theorem dX7_oilOf_2 : decode cX7_oilOf 2 = .ok (.iconst 0, 1) := by decide +kernel
theorem dX7_oilOf_3 : decode cX7_oilOf 3 = .ok (.istore_n 3, 1) := by decide +kernel
theorem dX7_oilOf_4 : decode cX7_oilOf 4 = .ok (.iload_n 3, 1) := by decide +kernel
theorem dX7_oilOf_5 : decode cX7_oilOf 5 = .ok (.aload_n 0, 1) := by decide +kernel
theorem dX7_oilOf_6 : decode cX7_oilOf 6 = .ok (.getfield 71, 3) := by decide +kernel
theorem dX7_oilOf_9 : decode cX7_oilOf 9 = .ok (.if_icmp .ge 18, 3) := by decide +kernel
theorem dX7_oilOf_12 : decode cX7_oilOf 12 = .ok (.iload_n 2, 1) := by decide +kernel
theorem dX7_oilOf_13 : decode cX7_oilOf 13 = .ok (.aload_n 1, 1) := by decide +kernel
theorem dX7_oilOf_14 : decode cX7_oilOf 14 = .ok (.bipush 6, 2) := by decide +kernel
theorem dX7_oilOf_16 : decode cX7_oilOf 16 = .ok (.iload_n 3, 1) := by decide +kernel
theorem dX7_oilOf_17 : decode cX7_oilOf 17 = .ok (.iadd, 1) := by decide +kernel
theorem dX7_oilOf_18 : decode cX7_oilOf 18 = .ok (.iaload, 1) := by decide +kernel
theorem dX7_oilOf_19 : decode cX7_oilOf 19 = .ok (.iadd, 1) := by decide +kernel
theorem dX7_oilOf_20 : decode cX7_oilOf 20 = .ok (.istore_n 2, 1) := by decide +kernel
theorem dX7_oilOf_21 : decode cX7_oilOf 21 = .ok (.iinc 3 1, 3) := by decide +kernel
theorem dX7_oilOf_24 : decode cX7_oilOf 24 = .ok (.goto (-20), 3) := by decide +kernel
theorem dX7_oilOf_27 : decode cX7_oilOf 27 = .ok (.iload_n 2, 1) := by decide +kernel
theorem dX7_oilOf_28 : decode cX7_oilOf 28 = .ok (.ireturn, 1) := by decide +kernel
set_option maxRecDepth 20000 in
theorem ggX7_light_X7_isMan : GoodIn wsX7_light wsX7_isMan := goodIn_r _ [6, 7, 8, 9, 5, 10, 24, 25, 26, 27, 28, 29, 30, 31, 32, 33, 34, 35, 36, 37, 38, 39, 40, 41, 42, 43, 44, 45, 46, 47, 48, 49, 50, 51, 52, 53, 54, 55, 56, 57, 58] (by decide +kernel) (by decide +kernel)
set_option maxRecDepth 20000 in
theorem gX7_light_X7_isMan : GoodIn wsX7_light (wsV RX7 152 RX7 yX7_isMan wsX7_isMan) := goodIn_app (goodIn_of _ (by decide +kernel)) ggX7_light_X7_isMan
set_option maxRecDepth 20000 in
theorem ggX7_light_X7_note : GoodIn wsX7_light wsX7_note := goodIn_r _ [14, 15, 16, 1, 17, 18, 5, 19, 24, 25, 26, 27, 28, 29, 30, 31, 32, 33, 34, 35, 36, 37, 38, 39, 40, 41, 42, 43, 44, 45, 46, 47, 48, 49, 50, 51, 52, 53, 54, 55, 56, 57, 58] (by decide +kernel) (by decide +kernel)
set_option maxRecDepth 20000 in
theorem gX7_light_X7_note : GoodIn wsX7_light (wsV RX7 162 RX7 yX7_note wsX7_note) := goodIn_app (goodIn_of _ (by decide +kernel)) ggX7_light_X7_note
set_option maxRecDepth 20000 in
theorem ggX7_light_X7_litOf : GoodIn wsX7_light wsX7_litOf := goodIn_r _ [23, 7, 24, 25, 26, 27, 28, 29, 30, 31, 32, 33, 34, 35, 36, 37, 38, 39, 40, 41, 42, 43, 44, 45, 46, 47, 48, 49, 50, 51, 52, 53, 54, 55, 56, 57, 58] (by decide +kernel) (by decide +kernel)
set_option maxRecDepth 20000 in
theorem gX7_light_X7_litOf : GoodIn wsX7_light (wsV RX7 165 RX7 yX7_litOf wsX7_litOf) := goodIn_app (goodIn_of _ (by decide +kernel)) ggX7_light_X7_litOf
theorem dX7_light_0 : decode cX7_light 0 = .ok (.aload_n 0, 1) := by decide +kernel
theorem dX7_light_1 : decode cX7_light 1 = .ok (.iload_n 1, 1) := by decide +kernel
theorem dX7_light_2 : decode cX7_light 2 = .ok (.invokevirtual 152, 3) := by decide +kernel
theorem dX7_light_5 : decode cX7_light 5 = .ok (.ifCond .ne 5, 3) := by decide +kernel
theorem dX7_light_8 : decode cX7_light 8 = .ok (.iconst (-1), 1) := by decide +kernel
theorem dX7_light_9 : decode cX7_light 9 = .ok (.ireturn, 1) := by decide +kernel
theorem dX7_light_10 : decode cX7_light 10 = .ok (.aload_n 0, 1) := by decide +kernel
theorem dX7_light_11 : decode cX7_light 11 = .ok (.getfield 40, 3) := by decide +kernel
theorem dX7_light_14 : decode cX7_light 14 = .ok (.bipush 6, 2) := by decide +kernel
theorem dX7_light_16 : decode cX7_light 16 = .ok (.iload_n 1, 1) := by decide +kernel
theorem dX7_light_17 : decode cX7_light 17 = .ok (.iadd, 1) := by decide +kernel
theorem dX7_light_18 : decode cX7_light 18 = .ok (.iaload, 1) := by decide +kernel
theorem dX7_light_19 : decode cX7_light 19 = .ok (.ifCond .eq 16, 3) := by decide +kernel
theorem dX7_light_22 : decode cX7_light 22 = .ok (.aload_n 0, 1) := by decide +kernel
theorem dX7_light_23 : decode cX7_light 23 = .ok (.getfield 40, 3) := by decide +kernel
theorem dX7_light_26 : decode cX7_light 26 = .ok (.bipush 12, 2) := by decide +kernel
theorem dX7_light_28 : decode cX7_light 28 = .ok (.iload_n 1, 1) := by decide +kernel
theorem dX7_light_29 : decode cX7_light 29 = .ok (.iadd, 1) := by decide +kernel
theorem dX7_light_30 : decode cX7_light 30 = .ok (.iaload, 1) := by decide +kernel
theorem dX7_light_31 : decode cX7_light 31 = .ok (.iconst 1, 1) := by decide +kernel
theorem dX7_light_32 : decode cX7_light 32 = .ok (.if_icmp .ne 6, 3) := by decide +kernel
theorem dX7_light_35 : decode cX7_light 35 = .ok (.bipush (-2), 2) := by decide +kernel
theorem dX7_light_37 : decode cX7_light 37 = .ok (.ireturn, 1) := by decide +kernel
theorem dX7_light_38 : decode cX7_light 38 = .ok (.aload_n 0, 1) := by decide +kernel
theorem dX7_light_39 : decode cX7_light 39 = .ok (.invokevirtual 162, 3) := by decide +kernel
theorem dX7_light_42 : decode cX7_light 42 = .ok (.aload_n 0, 1) := by decide +kernel
theorem dX7_light_43 : decode cX7_light 43 = .ok (.getfield 40, 3) := by decide +kernel
theorem dX7_light_46 : decode cX7_light 46 = .ok (.bipush 12, 2) := by decide +kernel
theorem dX7_light_48 : decode cX7_light 48 = .ok (.iload_n 1, 1) := by decide +kernel
theorem dX7_light_49 : decode cX7_light 49 = .ok (.iadd, 1) := by decide +kernel
theorem dX7_light_50 : decode cX7_light 50 = .ok (.iconst 1, 1) := by decide +kernel
theorem dX7_light_51 : decode cX7_light 51 = .ok (.iastore, 1) := by decide +kernel
theorem dX7_light_52 : decode cX7_light 52 = .ok (.aload_n 0, 1) := by decide +kernel
theorem dX7_light_53 : decode cX7_light 53 = .ok (.aload_n 0, 1) := by decide +kernel
theorem dX7_light_54 : decode cX7_light 54 = .ok (.getfield 40, 3) := by decide +kernel
theorem dX7_light_57 : decode cX7_light 57 = .ok (.invokevirtual 165, 3) := by decide +kernel
theorem dX7_light_60 : decode cX7_light 60 = .ok (.ireturn, 1) := by decide +kernel
set_option maxRecDepth 20000 in
theorem ggX7_change_X7_isMan : GoodIn wsX7_change wsX7_isMan := goodIn_r _ [6, 7, 8, 9, 5, 10, 20, 21, 22, 23, 24, 25, 26, 27, 28, 29, 30, 31, 32, 33, 34, 35, 36, 37, 38, 39, 40, 41, 42, 43, 44, 45, 46, 47, 48, 49, 50, 51, 52, 53, 54] (by decide +kernel) (by decide +kernel)
set_option maxRecDepth 20000 in
theorem gX7_change_X7_isMan : GoodIn wsX7_change (wsV RX7 152 RX7 yX7_isMan wsX7_isMan) := goodIn_app (goodIn_of _ (by decide +kernel)) ggX7_change_X7_isMan
set_option maxRecDepth 20000 in
theorem ggX7_change_X7_note : GoodIn wsX7_change wsX7_note := goodIn_r _ [14, 15, 16, 1, 17, 18, 5, 19, 20, 21, 22, 23, 24, 25, 26, 27, 28, 29, 30, 31, 32, 33, 34, 35, 36, 37, 38, 39, 40, 41, 42, 43, 44, 45, 46, 47, 48, 49, 50, 51, 52, 53, 54] (by decide +kernel) (by decide +kernel)
set_option maxRecDepth 20000 in
theorem gX7_change_X7_note : GoodIn wsX7_change (wsV RX7 162 RX7 yX7_note wsX7_note) := goodIn_app (goodIn_of _ (by decide +kernel)) ggX7_change_X7_note
theorem dX7_change_0 : decode cX7_change 0 = .ok (.aload_n 0, 1) := by decide +kernel
theorem dX7_change_1 : decode cX7_change 1 = .ok (.iload_n 1, 1) := by decide +kernel
theorem dX7_change_2 : decode cX7_change 2 = .ok (.invokevirtual 152, 3) := by decide +kernel
theorem dX7_change_5 : decode cX7_change 5 = .ok (.ifCond .eq 16, 3) := by decide +kernel
theorem dX7_change_8 : decode cX7_change 8 = .ok (.aload_n 0, 1) := by decide +kernel
theorem dX7_change_9 : decode cX7_change 9 = .ok (.iload_n 2, 1) := by decide +kernel
theorem dX7_change_10 : decode cX7_change 10 = .ok (.invokevirtual 152, 3) := by decide +kernel
theorem dX7_change_13 : decode cX7_change 13 = .ok (.ifCond .eq 8, 3) := by decide +kernel
theorem dX7_change_16 : decode cX7_change 16 = .ok (.iload_n 1, 1) := by decide +kernel
theorem dX7_change_17 : decode cX7_change 17 = .ok (.iload_n 2, 1) := by decide +kernel
theorem dX7_change_18 : decode cX7_change 18 = .ok (.if_icmp .ne 5, 3) := by decide +kernel
theorem dX7_change_21 : decode cX7_change 21 = .ok (.iconst (-1), 1) := by decide +kernel
theorem dX7_change_22 : decode cX7_change 22 = .ok (.ireturn, 1) := by decide +kernel
theorem dX7_change_23 : decode cX7_change 23 = .ok (.aload_n 0, 1) := by decide +kernel
theorem dX7_change_24 : decode cX7_change 24 = .ok (.invokevirtual 162, 3) := by decide +kernel
theorem dX7_change_27 : decode cX7_change 27 = .ok (.aload_n 0, 1) := by decide +kernel
theorem dX7_change_28 : decode cX7_change 28 = .ok (.getfield 40, 3) := by decide +kernel
theorem dX7_change_31 : decode cX7_change 31 = .ok (.iload_n 1, 1) := by decide +kernel
theorem dX7_change_32 : decode cX7_change 32 = .ok (.iaload, 1) := by decide +kernel
theorem dX7_change_33 : decode cX7_change 33 = .ok (.istore_n 3, 1) := by decide +kernel
theorem dX7_change_34 : decode cX7_change 34 = .ok (.aload_n 0, 1) := by decide +kernel
theorem dX7_change_35 : decode cX7_change 35 = .ok (.getfield 40, 3) := by decide +kernel
theorem dX7_change_38 : decode cX7_change 38 = .ok (.iload_n 1, 1) := by decide +kernel
theorem dX7_change_39 : decode cX7_change 39 = .ok (.aload_n 0, 1) := by decide +kernel
theorem dX7_change_40 : decode cX7_change 40 = .ok (.getfield 40, 3) := by decide +kernel
theorem dX7_change_43 : decode cX7_change 43 = .ok (.iload_n 2, 1) := by decide +kernel
theorem dX7_change_44 : decode cX7_change 44 = .ok (.iaload, 1) := by decide +kernel
theorem dX7_change_45 : decode cX7_change 45 = .ok (.iastore, 1) := by decide +kernel
theorem dX7_change_46 : decode cX7_change 46 = .ok (.aload_n 0, 1) := by decide +kernel
theorem dX7_change_47 : decode cX7_change 47 = .ok (.getfield 40, 3) := by decide +kernel
theorem dX7_change_50 : decode cX7_change 50 = .ok (.iload_n 2, 1) := by decide +kernel
theorem dX7_change_51 : decode cX7_change 51 = .ok (.iload_n 3, 1) := by decide +kernel
theorem dX7_change_52 : decode cX7_change 52 = .ok (.iastore, 1) := by decide +kernel
theorem dX7_change_53 : decode cX7_change 53 = .ok (.aload_n 0, 1) := by decide +kernel
theorem dX7_change_54 : decode cX7_change 54 = .ok (.getfield 40, 3) := by decide +kernel
theorem dX7_change_57 : decode cX7_change 57 = .ok (.iload_n 1, 1) := by decide +kernel
theorem dX7_change_58 : decode cX7_change 58 = .ok (.iaload, 1) := by decide +kernel
theorem dX7_change_59 : decode cX7_change 59 = .ok (.ireturn, 1) := by decide +kernel
set_option maxRecDepth 20000 in
theorem ggX7_bells_X7_in : GoodIn wsX7_bells wsX7_in := goodIn_r _ [5] (by decide +kernel) (by decide +kernel)
set_option maxRecDepth 20000 in
theorem gX7_bells_X7_in : GoodIn wsX7_bells (va_wsS RX7 84 yX7_in wsX7_in) := goodIn_app (goodIn_of _ (by decide +kernel)) ggX7_bells_X7_in
set_option maxRecDepth 20000 in
theorem ggX7_bells_X7_note : GoodIn wsX7_bells wsX7_note := goodIn_r _ [9, 10, 11, 1, 12, 13, 4, 14, 26, 27, 28, 29, 30, 31, 32, 33, 34, 35, 36, 37, 38, 39, 40, 41, 42, 43, 44, 45, 46, 47, 48, 49, 50, 51, 52, 53, 54, 55, 56, 57, 58, 59, 60] (by decide +kernel) (by decide +kernel)
set_option maxRecDepth 20000 in
theorem gX7_bells_X7_note : GoodIn wsX7_bells (wsV RX7 162 RX7 yX7_note wsX7_note) := goodIn_app (goodIn_of _ (by decide +kernel)) ggX7_bells_X7_note
set_option maxRecDepth 20000 in
theorem ggX7_bells_X7_ring : GoodIn wsX7_bells wsX7_ring := goodIn_r _ [18, 19, 20, 21, 22, 23, 24, 25, 26, 27, 28, 29, 30, 31, 32, 33, 34, 35, 36, 37, 38, 39, 40, 41, 42, 43, 44, 45, 46, 47, 48, 49, 50, 51, 52, 53, 54, 55, 56, 57, 58, 59, 60] (by decide +kernel) (by decide +kernel)
set_option maxRecDepth 20000 in
theorem gX7_bells_X7_ring : GoodIn wsX7_bells (wsV RX7 145 RX7 yX7_ring wsX7_ring) := goodIn_app (goodIn_of _ (by decide +kernel)) ggX7_bells_X7_ring
theorem dX7_bells_0 : decode cX7_bells 0 = .ok (.iload_n 1, 1) := by decide +kernel
theorem dX7_bells_1 : decode cX7_bells 1 = .ok (.iconst 1, 1) := by decide +kernel
theorem dX7_bells_2 : decode cX7_bells 2 = .ok (.bipush 99, 2) := by decide +kernel
theorem dX7_bells_4 : decode cX7_bells 4 = .ok (.invokestatic 84, 3) := by decide +kernel
theorem dX7_bells_7 : decode cX7_bells 7 = .ok (.ifCond .ne 5, 3) := by decide +kernel
theorem dX7_bells_10 : decode cX7_bells 10 = .ok (.iconst (-1), 1) := by decide +kernel
theorem dX7_bells_11 : decode cX7_bells 11 = .ok (.ireturn, 1) := by decide +kernel
theorem dX7_bells_12 : decode cX7_bells 12 = .ok (.aload_n 0, 1) := by decide +kernel
theorem dX7_bells_13 : decode cX7_bells 13 = .ok (.getfield 40, 3) := by decide +kernel
theorem dX7_bells_16 : decode cX7_bells 16 = .ok (.bipush 18, 2) := by decide +kernel
theorem dX7_bells_18 : decode cX7_bells 18 = .ok (.iaload, 1) := by decide +kernel
theorem dX7_bells_19 : decode cX7_bells 19 = .ok (.iload_n 1, 1) := by decide +kernel
theorem dX7_bells_20 : decode cX7_bells 20 = .ok (.iadd, 1) := by decide +kernel
theorem dX7_bells_21 : decode cX7_bells 21 = .ok (.sipush 9999, 3) := by decide +kernel
theorem dX7_bells_24 : decode cX7_bells 24 = .ok (.if_icmp .le 6, 3) := by decide +kernel
theorem dX7_bells_27 : decode cX7_bells 27 = .ok (.bipush (-2), 2) := by decide +kernel
theorem dX7_bells_29 : decode cX7_bells 29 = .ok (.ireturn, 1) := by decide +kernel
theorem dX7_bells_30 : decode cX7_bells 30 = .ok (.aload_n 0, 1) := by decide +kernel
theorem dX7_bells_31 : decode cX7_bells 31 = .ok (.invokevirtual 162, 3) := by decide +kernel
theorem dX7_bells_34 : decode cX7_bells 34 = .ok (.iconst 0, 1) := by decide +kernel
theorem dX7_bells_35 : decode cX7_bells 35 = .ok (.istore_n 2, 1) := by decide +kernel
theorem dX7_bells_36 : decode cX7_bells 36 = .ok (.iload_n 2, 1) := by decide +kernel
theorem dX7_bells_37 : decode cX7_bells 37 = .ok (.iload_n 1, 1) := by decide +kernel
theorem dX7_bells_38 : decode cX7_bells 38 = .ok (.if_icmp .ge 17, 3) := by decide +kernel
theorem dX7_bells_41 : decode cX7_bells 41 = .ok (.aload_n 0, 1) := by decide +kernel
theorem dX7_bells_42 : decode cX7_bells 42 = .ok (.aload_n 0, 1) := by decide +kernel
theorem dX7_bells_43 : decode cX7_bells 43 = .ok (.getfield 40, 3) := by decide +kernel
theorem dX7_bells_46 : decode cX7_bells 46 = .ok (.invokevirtual 145, 3) := by decide +kernel
theorem dX7_bells_49 : decode cX7_bells 49 = .ok (.iinc 2 1, 3) := by decide +kernel
theorem dX7_bells_52 : decode cX7_bells 52 = .ok (.goto (-16), 3) := by decide +kernel
theorem dX7_bells_55 : decode cX7_bells 55 = .ok (.aload_n 0, 1) := by decide +kernel
theorem dX7_bells_56 : decode cX7_bells 56 = .ok (.getfield 40, 3) := by decide +kernel
theorem dX7_bells_59 : decode cX7_bells 59 = .ok (.bipush 18, 2) := by decide +kernel
theorem dX7_bells_61 : decode cX7_bells 61 = .ok (.iaload, 1) := by decide +kernel
theorem dX7_bells_62 : decode cX7_bells 62 = .ok (.ireturn, 1) := by decide +kernel
set_option maxRecDepth 20000 in
theorem ggX7_undo_X7_copy : GoodIn wsX7_undo wsX7_copy := goodIn_r _ [7] (by decide +kernel) (by decide +kernel)
set_option maxRecDepth 20000 in
theorem gX7_undo_X7_copy : GoodIn wsX7_undo (va_wsS RX7 141 yX7_copy wsX7_copy) := goodIn_app (goodIn_of _ (by decide +kernel)) ggX7_undo_X7_copy
theorem dX7_undo_0 : decode cX7_undo 0 = .ok (.aload_n 0, 1) := by decide +kernel
theorem dX7_undo_1 : decode cX7_undo 1 = .ok (.getfield 135, 3) := by decide +kernel
theorem dX7_undo_4 : decode cX7_undo 4 = .ok (.ifCond .ne 6, 3) := by decide +kernel
theorem dX7_undo_7 : decode cX7_undo 7 = .ok (.bipush (-2), 2) := by decide +kernel
theorem dX7_undo_9 : decode cX7_undo 9 = .ok (.ireturn, 1) := by decide +kernel
theorem dX7_undo_10 : decode cX7_undo 10 = .ok (.aload_n 0, 1) := by decide +kernel
theorem dX7_undo_11 : decode cX7_undo 11 = .ok (.dup, 1) := by decide +kernel
theorem dX7_undo_12 : decode cX7_undo 12 = .ok (.getfield 135, 3) := by decide +kernel
theorem dX7_undo_15 : decode cX7_undo 15 = .ok (.iconst 1, 1) := by decide +kernel
theorem dX7_undo_16 : decode cX7_undo 16 = .ok (.isub, 1) := by decide +kernel
theorem dX7_undo_17 : decode cX7_undo 17 = .ok (.putfield 135, 3) := by decide +kernel
theorem dX7_undo_20 : decode cX7_undo 20 = .ok (.aload_n 0, 1) := by decide +kernel
theorem dX7_undo_21 : decode cX7_undo 21 = .ok (.getfield 46, 3) := by decide +kernel
theorem dX7_undo_24 : decode cX7_undo 24 = .ok (.bipush 19, 2) := by decide +kernel
theorem dX7_undo_26 : decode cX7_undo 26 = .ok (.aload_n 0, 1) := by decide +kernel
theorem dX7_undo_27 : decode cX7_undo 27 = .ok (.getfield 135, 3) := by decide +kernel
theorem dX7_undo_30 : decode cX7_undo 30 = .ok (.imul, 1) := by decide +kernel
theorem dX7_undo_31 : decode cX7_undo 31 = .ok (.aload_n 0, 1) := by decide +kernel
theorem dX7_undo_32 : decode cX7_undo 32 = .ok (.getfield 40, 3) := by decide +kernel
theorem dX7_undo_35 : decode cX7_undo 35 = .ok (.iconst 0, 1) := by decide +kernel
theorem dX7_undo_36 : decode cX7_undo 36 = .ok (.invokestatic 141, 3) := by decide +kernel
theorem dX7_undo_39 : decode cX7_undo 39 = .ok (.aload_n 0, 1) := by decide +kernel
theorem dX7_undo_40 : decode cX7_undo 40 = .ok (.getfield 135, 3) := by decide +kernel
theorem dX7_undo_43 : decode cX7_undo 43 = .ok (.ireturn, 1) := by decide +kernel
set_option maxRecDepth 20000 in
theorem ggX7_warm_X7_in : GoodIn wsX7_warm wsX7_in := goodIn_r _ [5] (by decide +kernel) (by decide +kernel)
set_option maxRecDepth 20000 in
theorem gX7_warm_X7_in : GoodIn wsX7_warm (va_wsS RX7 84 yX7_in wsX7_in) := goodIn_app (goodIn_of _ (by decide +kernel)) ggX7_warm_X7_in
set_option maxRecDepth 20000 in
theorem ggX7_warm_X7_isMan : GoodIn wsX7_warm wsX7_isMan := goodIn_r _ [9, 10, 2, 3, 4, 5, 44, 45, 46, 47, 48, 49, 50, 51, 52, 53, 54, 55, 56, 57, 58, 59, 60, 61, 62, 63, 64, 65, 66, 67, 68, 69, 70, 71, 72, 73, 74, 75, 76, 77, 78] (by decide +kernel) (by decide +kernel)
set_option maxRecDepth 20000 in
theorem gX7_warm_X7_isMan : GoodIn wsX7_warm (wsV RX7 152 RX7 yX7_isMan wsX7_isMan) := goodIn_app (goodIn_of _ (by decide +kernel)) ggX7_warm_X7_isMan
set_option maxRecDepth 20000 in
theorem ggX7_warm_X7_triedIn : GoodIn wsX7_warm wsX7_triedIn := goodIn_r _ [14, 15, 1, 16, 17, 4, 18, 19, 20, 21, 22, 10, 23, 24, 25, 26, 27, 28, 44, 45, 46, 47, 48, 49, 50, 51, 52, 53, 54, 55, 56, 57, 58, 59, 60, 61, 62, 63, 64, 65, 66, 67, 68, 69, 70, 71, 72, 73, 74, 75, 76, 77, 78] (by decide +kernel) (by decide +kernel)
set_option maxRecDepth 20000 in
theorem gX7_warm_X7_triedIn : GoodIn wsX7_warm (wsV RX7 169 RX7 yX7_triedIn wsX7_triedIn) := goodIn_app (goodIn_of _ (by decide +kernel)) ggX7_warm_X7_triedIn
set_option maxRecDepth 20000 in
theorem ggX7_warm_X7_isWarm : GoodIn wsX7_warm wsX7_isWarm := goodIn_r _ [32, 33, 34, 35, 36, 37, 38, 39, 4, 40, 2, 3, 5, 44, 45, 46, 47, 48, 49, 50, 51, 52, 53, 54, 55, 56, 57, 58, 59, 60, 61, 62, 63, 64, 65, 66, 67, 68, 69, 70, 71, 72, 73, 74, 75, 76, 77, 78] (by decide +kernel) (by decide +kernel)
set_option maxRecDepth 20000 in
theorem gX7_warm_X7_isWarm : GoodIn wsX7_warm (wsV RX7 159 RX7 yX7_isWarm wsX7_isWarm) := goodIn_app (goodIn_of _ (by decide +kernel)) ggX7_warm_X7_isWarm
set_option maxRecDepth 20000 in
theorem ggX7_warm_X7_bit : GoodIn wsX7_warm wsX7_bit := goodIn_r _ [43] (by decide +kernel) (by decide +kernel)
set_option maxRecDepth 20000 in
theorem gX7_warm_X7_bit : GoodIn wsX7_warm (va_wsS RX7 155 yX7_bit wsX7_bit) := goodIn_app (goodIn_of _ (by decide +kernel)) ggX7_warm_X7_bit
theorem dX7_warm_0 : decode cX7_warm 0 = .ok (.iload_n 1, 1) := by decide +kernel
theorem dX7_warm_1 : decode cX7_warm 1 = .ok (.iconst 0, 1) := by decide +kernel
theorem dX7_warm_2 : decode cX7_warm 2 = .ok (.bipush 60, 2) := by decide +kernel
theorem dX7_warm_4 : decode cX7_warm 4 = .ok (.invokestatic 84, 3) := by decide +kernel
theorem dX7_warm_7 : decode cX7_warm 7 = .ok (.ifCond .eq 11, 3) := by decide +kernel
theorem dX7_warm_10 : decode cX7_warm 10 = .ok (.aload_n 0, 1) := by decide +kernel
theorem dX7_warm_11 : decode cX7_warm 11 = .ok (.iload_n 2, 1) := by decide +kernel
theorem dX7_warm_12 : decode cX7_warm 12 = .ok (.invokevirtual 152, 3) := by decide +kernel
theorem dX7_warm_15 : decode cX7_warm 15 = .ok (.ifCond .ne 5, 3) := by decide +kernel
theorem dX7_warm_18 : decode cX7_warm 18 = .ok (.iconst (-1), 1) := by decide +kernel
theorem dX7_warm_19 : decode cX7_warm 19 = .ok (.ireturn, 1) := by decide +kernel
theorem dX7_warm_20 : decode cX7_warm 20 = .ok (.aload_n 0, 1) := by decide +kernel
theorem dX7_warm_21 : decode cX7_warm 21 = .ok (.iload_n 1, 1) := by decide +kernel
theorem dX7_warm_22 : decode cX7_warm 22 = .ok (.invokevirtual 169, 3) := by decide +kernel
theorem dX7_warm_25 : decode cX7_warm 25 = .ok (.aload_n 0, 1) := by decide +kernel
theorem dX7_warm_26 : decode cX7_warm 26 = .ok (.aload_n 0, 1) := by decide +kernel
theorem dX7_warm_27 : decode cX7_warm 27 = .ok (.getfield 43, 3) := by decide +kernel
theorem dX7_warm_30 : decode cX7_warm 30 = .ok (.iload_n 2, 1) := by decide +kernel
theorem dX7_warm_31 : decode cX7_warm 31 = .ok (.invokevirtual 159, 3) := by decide +kernel
theorem dX7_warm_34 : decode cX7_warm 34 = .ok (.invokestatic 155, 3) := by decide +kernel
theorem dX7_warm_37 : decode cX7_warm 37 = .ok (.ireturn, 1) := by decide +kernel
set_option maxRecDepth 20000 in
theorem ggX7_darkIn_X7_isLit : GoodIn wsX7_darkIn wsX7_isLit := goodIn_r _ [6] (by decide +kernel) (by decide +kernel)
set_option maxRecDepth 20000 in
theorem gX7_darkIn_X7_isLit : GoodIn wsX7_darkIn (wsV RX7 148 RX7 yX7_isLit wsX7_isLit) := goodIn_app (goodIn_of _ (by decide +kernel)) ggX7_darkIn_X7_isLit
theorem dX7_darkIn_0 : decode cX7_darkIn 0 = .ok (.iconst 0, 1) := by decide +kernel
theorem dX7_darkIn_1 : decode cX7_darkIn 1 = .ok (.istore_n 2, 1) := by decide +kernel
theorem dX7_darkIn_2 : decode cX7_darkIn 2 = .ok (.iconst 0, 1) := by decide +kernel
theorem dX7_darkIn_3 : decode cX7_darkIn 3 = .ok (.istore_n 3, 1) := by decide +kernel
theorem dX7_darkIn_4 : decode cX7_darkIn 4 = .ok (.iload_n 3, 1) := by decide +kernel
theorem dX7_darkIn_5 : decode cX7_darkIn 5 = .ok (.aload_n 0, 1) := by decide +kernel
theorem dX7_darkIn_6 : decode cX7_darkIn 6 = .ok (.getfield 71, 3) := by decide +kernel
theorem dX7_darkIn_9 : decode cX7_darkIn 9 = .ok (.if_icmp .ge 28, 3) := by decide +kernel
theorem dX7_darkIn_12 : decode cX7_darkIn 12 = .ok (.iload_n 2, 1) := by decide +kernel
theorem dX7_darkIn_13 : decode cX7_darkIn 13 = .ok (.aload_n 0, 1) := by decide +kernel
theorem dX7_darkIn_14 : decode cX7_darkIn 14 = .ok (.aload_n 1, 1) := by decide +kernel
theorem dX7_darkIn_15 : decode cX7_darkIn 15 = .ok (.iload_n 3, 1) := by decide +kernel
theorem dX7_darkIn_16 : decode cX7_darkIn 16 = .ok (.invokevirtual 148, 3) := by decide +kernel
theorem dX7_darkIn_19 : decode cX7_darkIn 19 = .ok (.ifCond .eq 7, 3) := by decide +kernel
theorem dX7_darkIn_22 : decode cX7_darkIn 22 = .ok (.iconst 0, 1) := by decide +kernel
theorem dX7_darkIn_23 : decode cX7_darkIn 23 = .ok (.goto 6, 3) := by decide +kernel
theorem dX7_darkIn_26 : decode cX7_darkIn 26 = .ok (.iconst 1, 1) := by decide +kernel
theorem dX7_darkIn_27 : decode cX7_darkIn 27 = .ok (.iload_n 3, 1) := by decide +kernel
theorem dX7_darkIn_28 : decode cX7_darkIn 28 = .ok (.ishl, 1) := by decide +kernel
theorem dX7_darkIn_29 : decode cX7_darkIn 29 = .ok (.ior, 1) := by decide +kernel
theorem dX7_darkIn_30 : decode cX7_darkIn 30 = .ok (.istore_n 2, 1) := by decide +kernel
theorem dX7_darkIn_31 : decode cX7_darkIn 31 = .ok (.iinc 3 1, 3) := by decide +kernel
theorem dX7_darkIn_34 : decode cX7_darkIn 34 = .ok (.goto (-30), 3) := by decide +kernel
theorem dX7_darkIn_37 : decode cX7_darkIn 37 = .ok (.iload_n 2, 1) := by decide +kernel
theorem dX7_darkIn_38 : decode cX7_darkIn 38 = .ok (.ireturn, 1) := by decide +kernel
set_option maxRecDepth 20000 in
theorem ggX7_dark_X7_in : GoodIn wsX7_dark wsX7_in := goodIn_r _ [5] (by decide +kernel) (by decide +kernel)
set_option maxRecDepth 20000 in
theorem gX7_dark_X7_in : GoodIn wsX7_dark (va_wsS RX7 84 yX7_in wsX7_in) := goodIn_app (goodIn_of _ (by decide +kernel)) ggX7_dark_X7_in
set_option maxRecDepth 20000 in
theorem ggX7_dark_X7_triedIn : GoodIn wsX7_dark wsX7_triedIn := goodIn_r _ [9, 10, 1, 11, 12, 4, 13, 14, 15, 16, 17, 18, 19, 20, 21, 22, 23, 24, 33, 34, 35, 36, 37, 38, 39, 40, 41, 42, 43, 44, 45, 46, 47, 48, 49, 50, 51, 52, 53, 54, 55, 56, 57, 58, 59, 60, 61, 62, 63, 64, 65, 66, 67] (by decide +kernel) (by decide +kernel)
set_option maxRecDepth 20000 in
theorem gX7_dark_X7_triedIn : GoodIn wsX7_dark (wsV RX7 169 RX7 yX7_triedIn wsX7_triedIn) := goodIn_app (goodIn_of _ (by decide +kernel)) ggX7_dark_X7_triedIn
set_option maxRecDepth 20000 in
theorem ggX7_dark_X7_darkIn : GoodIn wsX7_dark wsX7_darkIn := goodIn_r _ [28, 18, 29, 30, 31, 4, 32, 33, 34, 35, 36, 37, 38, 39, 40, 41, 42, 43, 44, 45, 46, 47, 48, 49, 50, 51, 52, 53, 54, 55, 56, 57, 58, 59, 60, 61, 62, 63, 64, 65, 66, 67] (by decide +kernel) (by decide +kernel)
set_option maxRecDepth 20000 in
theorem gX7_dark_X7_darkIn : GoodIn wsX7_dark (wsV RX7 173 RX7 yX7_darkIn wsX7_darkIn) := goodIn_app (goodIn_of _ (by decide +kernel)) ggX7_dark_X7_darkIn
theorem dX7_dark_0 : decode cX7_dark 0 = .ok (.iload_n 1, 1) := by decide +kernel
theorem dX7_dark_1 : decode cX7_dark 1 = .ok (.iconst 0, 1) := by decide +kernel
theorem dX7_dark_2 : decode cX7_dark 2 = .ok (.bipush 60, 2) := by decide +kernel
theorem dX7_dark_4 : decode cX7_dark 4 = .ok (.invokestatic 84, 3) := by decide +kernel
theorem dX7_dark_7 : decode cX7_dark 7 = .ok (.ifCond .ne 5, 3) := by decide +kernel
theorem dX7_dark_10 : decode cX7_dark 10 = .ok (.iconst (-1), 1) := by decide +kernel
theorem dX7_dark_11 : decode cX7_dark 11 = .ok (.ireturn, 1) := by decide +kernel
theorem dX7_dark_12 : decode cX7_dark 12 = .ok (.aload_n 0, 1) := by decide +kernel
theorem dX7_dark_13 : decode cX7_dark 13 = .ok (.iload_n 1, 1) := by decide +kernel
theorem dX7_dark_14 : decode cX7_dark 14 = .ok (.invokevirtual 169, 3) := by decide +kernel
theorem dX7_dark_17 : decode cX7_dark 17 = .ok (.aload_n 0, 1) := by decide +kernel
theorem dX7_dark_18 : decode cX7_dark 18 = .ok (.aload_n 0, 1) := by decide +kernel
theorem dX7_dark_19 : decode cX7_dark 19 = .ok (.getfield 43, 3) := by decide +kernel
theorem dX7_dark_22 : decode cX7_dark 22 = .ok (.invokevirtual 173, 3) := by decide +kernel
theorem dX7_dark_25 : decode cX7_dark 25 = .ok (.ireturn, 1) := by decide +kernel
set_option maxRecDepth 20000 in
theorem ggX7_walk_X7_isMan : GoodIn wsX7_walk wsX7_isMan := goodIn_r _ [7, 2, 8, 9, 6, 10, 36, 37, 38, 39, 40, 41, 42, 43, 44, 45, 46, 47, 48, 49, 50, 51, 52, 53, 54, 55, 56, 57, 58, 59, 60, 61, 62, 63, 64, 65, 66, 67, 68, 69, 70] (by decide +kernel) (by decide +kernel)
set_option maxRecDepth 20000 in
theorem gX7_walk_X7_isMan : GoodIn wsX7_walk (wsV RX7 152 RX7 yX7_isMan wsX7_isMan) := goodIn_app (goodIn_of _ (by decide +kernel)) ggX7_walk_X7_isMan
set_option maxRecDepth 20000 in
theorem ggX7_walk_X7_in : GoodIn wsX7_walk wsX7_in := goodIn_r _ [10] (by decide +kernel) (by decide +kernel)
set_option maxRecDepth 20000 in
theorem gX7_walk_X7_in : GoodIn wsX7_walk (va_wsS RX7 84 yX7_in wsX7_in) := goodIn_app (goodIn_of _ (by decide +kernel)) ggX7_walk_X7_in
set_option maxRecDepth 20000 in
theorem ggX7_walk_X7_triedIn : GoodIn wsX7_walk wsX7_triedIn := goodIn_r _ [14, 15, 1, 16, 17, 6, 18, 19, 20, 21, 22, 2, 23, 24, 25, 26, 27, 28, 36, 37, 38, 39, 40, 41, 42, 43, 44, 45, 46, 47, 48, 49, 50, 51, 52, 53, 54, 55, 56, 57, 58, 59, 60, 61, 62, 63, 64, 65, 66, 67, 68, 69, 70] (by decide +kernel) (by decide +kernel)
set_option maxRecDepth 20000 in
theorem gX7_walk_X7_triedIn : GoodIn wsX7_walk (wsV RX7 169 RX7 yX7_triedIn wsX7_triedIn) := goodIn_app (goodIn_of _ (by decide +kernel)) ggX7_walk_X7_triedIn
set_option maxRecDepth 20000 in
theorem ggX7_walk_X7_isLit : GoodIn wsX7_walk wsX7_isLit := goodIn_r _ [32] (by decide +kernel) (by decide +kernel)
set_option maxRecDepth 20000 in
theorem gX7_walk_X7_isLit : GoodIn wsX7_walk (wsV RX7 148 RX7 yX7_isLit wsX7_isLit) := goodIn_app (goodIn_of _ (by decide +kernel)) ggX7_walk_X7_isLit
set_option maxRecDepth 20000 in
theorem ggX7_walk_X7_bit : GoodIn wsX7_walk wsX7_bit := goodIn_r _ [35] (by decide +kernel) (by decide +kernel)
set_option maxRecDepth 20000 in
theorem gX7_walk_X7_bit : GoodIn wsX7_walk (va_wsS RX7 155 yX7_bit wsX7_bit) := goodIn_app (goodIn_of _ (by decide +kernel)) ggX7_walk_X7_bit
set_option maxRecDepth 20000 in
theorem ggX7_walk_X7_ring : GoodIn wsX7_walk wsX7_ring := goodIn_r _ [22, 2, 23, 24, 25, 26, 27, 28, 36, 37, 38, 39, 40, 41, 42, 43, 44, 45, 46, 47, 48, 49, 50, 51, 52, 53, 54, 55, 56, 57, 58, 59, 60, 61, 62, 63, 64, 65, 66, 67, 68, 69, 70] (by decide +kernel) (by decide +kernel)
set_option maxRecDepth 20000 in
theorem gX7_walk_X7_ring : GoodIn wsX7_walk (wsV RX7 145 RX7 yX7_ring wsX7_ring) := goodIn_app (goodIn_of _ (by decide +kernel)) ggX7_walk_X7_ring
theorem dX7_walk_0 : decode cX7_walk 0 = .ok (.aload_n 0, 1) := by decide +kernel
theorem dX7_walk_1 : decode cX7_walk 1 = .ok (.iload_n 1, 1) := by decide +kernel
theorem dX7_walk_2 : decode cX7_walk 2 = .ok (.invokevirtual 152, 3) := by decide +kernel
theorem dX7_walk_5 : decode cX7_walk 5 = .ok (.ifCond .eq 13, 3) := by decide +kernel
theorem dX7_walk_8 : decode cX7_walk 8 = .ok (.iload_n 2, 1) := by decide +kernel
theorem dX7_walk_9 : decode cX7_walk 9 = .ok (.iconst 0, 1) := by decide +kernel
theorem dX7_walk_10 : decode cX7_walk 10 = .ok (.bipush 60, 2) := by decide +kernel
theorem dX7_walk_12 : decode cX7_walk 12 = .ok (.invokestatic 84, 3) := by decide +kernel
theorem dX7_walk_15 : decode cX7_walk 15 = .ok (.ifCond .ne 5, 3) := by decide +kernel
theorem dX7_walk_18 : decode cX7_walk 18 = .ok (.iconst (-1), 1) := by decide +kernel
theorem dX7_walk_19 : decode cX7_walk 19 = .ok (.ireturn, 1) := by decide +kernel
theorem dX7_walk_20 : decode cX7_walk 20 = .ok (.aload_n 0, 1) := by decide +kernel
theorem dX7_walk_21 : decode cX7_walk 21 = .ok (.iconst 0, 1) := by decide +kernel
theorem dX7_walk_22 : decode cX7_walk 22 = .ok (.invokevirtual 169, 3) := by decide +kernel
theorem dX7_walk_25 : decode cX7_walk 25 = .ok (.iconst 0, 1) := by decide +kernel
theorem dX7_walk_26 : decode cX7_walk 26 = .ok (.istore_n 3, 1) := by decide +kernel
theorem dX7_walk_27 : decode cX7_walk 27 = .ok (.iconst 0, 1) := by decide +kernel
theorem dX7_walk_28 : decode cX7_walk 28 = .ok (.istore 4, 2) := by decide +kernel
theorem dX7_walk_30 : decode cX7_walk 30 = .ok (.iload 4, 2) := by decide +kernel
theorem dX7_walk_32 : decode cX7_walk 32 = .ok (.iload_n 2, 1) := by decide +kernel
theorem dX7_walk_33 : decode cX7_walk 33 = .ok (.if_icmp .gt 40, 3) := by decide +kernel
theorem dX7_walk_36 : decode cX7_walk 36 = .ok (.iload_n 3, 1) := by decide +kernel
theorem dX7_walk_37 : decode cX7_walk 37 = .ok (.aload_n 0, 1) := by decide +kernel
theorem dX7_walk_38 : decode cX7_walk 38 = .ok (.aload_n 0, 1) := by decide +kernel
theorem dX7_walk_39 : decode cX7_walk 39 = .ok (.getfield 43, 3) := by decide +kernel
theorem dX7_walk_42 : decode cX7_walk 42 = .ok (.iload_n 1, 1) := by decide +kernel
theorem dX7_walk_43 : decode cX7_walk 43 = .ok (.iload 4, 2) := by decide +kernel
theorem dX7_walk_45 : decode cX7_walk 45 = .ok (.iadd, 1) := by decide +kernel
theorem dX7_walk_46 : decode cX7_walk 46 = .ok (.aload_n 0, 1) := by decide +kernel
theorem dX7_walk_47 : decode cX7_walk 47 = .ok (.getfield 71, 3) := by decide +kernel
theorem dX7_walk_50 : decode cX7_walk 50 = .ok (.irem, 1) := by decide +kernel
theorem dX7_walk_51 : decode cX7_walk 51 = .ok (.invokevirtual 148, 3) := by decide +kernel
theorem dX7_walk_54 : decode cX7_walk 54 = .ok (.invokestatic 155, 3) := by decide +kernel
theorem dX7_walk_57 : decode cX7_walk 57 = .ok (.iadd, 1) := by decide +kernel
theorem dX7_walk_58 : decode cX7_walk 58 = .ok (.istore_n 3, 1) := by decide +kernel
theorem dX7_walk_59 : decode cX7_walk 59 = .ok (.aload_n 0, 1) := by decide +kernel
theorem dX7_walk_60 : decode cX7_walk 60 = .ok (.aload_n 0, 1) := by decide +kernel
theorem dX7_walk_61 : decode cX7_walk 61 = .ok (.getfield 43, 3) := by decide +kernel
theorem dX7_walk_64 : decode cX7_walk 64 = .ok (.invokevirtual 145, 3) := by decide +kernel
theorem dX7_walk_67 : decode cX7_walk 67 = .ok (.iinc 4 1, 3) := by decide +kernel
theorem dX7_walk_70 : decode cX7_walk 70 = .ok (.goto (-40), 3) := by decide +kernel
theorem dX7_walk_73 : decode cX7_walk 73 = .ok (.iload_n 3, 1) := by decide +kernel
theorem dX7_walk_74 : decode cX7_walk 74 = .ok (.ireturn, 1) := by decide +kernel
set_option maxRecDepth 20000 in
theorem ggX7_seen_X7_isMan : GoodIn wsX7_seen wsX7_isMan := goodIn_r _ [7, 8, 9, 10, 6, 11, 15, 16, 17, 18, 19, 20, 21, 22, 23, 24, 25, 26, 27, 28, 29, 30, 31, 32, 33, 34, 35, 36, 37, 38, 39, 40, 41, 42, 43, 44, 45, 46, 47, 48, 49] (by decide +kernel) (by decide +kernel)
set_option maxRecDepth 20000 in
theorem gX7_seen_X7_isMan : GoodIn wsX7_seen (wsV RX7 152 RX7 yX7_isMan wsX7_isMan) := goodIn_app (goodIn_of _ (by decide +kernel)) ggX7_seen_X7_isMan
set_option maxRecDepth 20000 in
theorem ggX7_seen_X7_in : GoodIn wsX7_seen wsX7_in := goodIn_r _ [11] (by decide +kernel) (by decide +kernel)
set_option maxRecDepth 20000 in
theorem gX7_seen_X7_in : GoodIn wsX7_seen (va_wsS RX7 84 yX7_in wsX7_in) := goodIn_app (goodIn_of _ (by decide +kernel)) ggX7_seen_X7_in
set_option maxRecDepth 20000 in
theorem ggX7_seen_X7_bit : GoodIn wsX7_seen wsX7_bit := goodIn_r _ [14] (by decide +kernel) (by decide +kernel)
set_option maxRecDepth 20000 in
theorem gX7_seen_X7_bit : GoodIn wsX7_seen (va_wsS RX7 155 yX7_bit wsX7_bit) := goodIn_app (goodIn_of _ (by decide +kernel)) ggX7_seen_X7_bit
theorem dX7_seen_0 : decode cX7_seen 0 = .ok (.aload_n 0, 1) := by decide +kernel
theorem dX7_seen_1 : decode cX7_seen 1 = .ok (.iload_n 1, 1) := by decide +kernel
theorem dX7_seen_2 : decode cX7_seen 2 = .ok (.invokevirtual 152, 3) := by decide +kernel
theorem dX7_seen_5 : decode cX7_seen 5 = .ok (.ifCond .eq 13, 3) := by decide +kernel
theorem dX7_seen_8 : decode cX7_seen 8 = .ok (.iload_n 2, 1) := by decide +kernel
theorem dX7_seen_9 : decode cX7_seen 9 = .ok (.iconst 0, 1) := by decide +kernel
theorem dX7_seen_10 : decode cX7_seen 10 = .ok (.bipush 60, 2) := by decide +kernel
theorem dX7_seen_12 : decode cX7_seen 12 = .ok (.invokestatic 84, 3) := by decide +kernel
theorem dX7_seen_15 : decode cX7_seen 15 = .ok (.ifCond .ne 5, 3) := by decide +kernel
theorem dX7_seen_18 : decode cX7_seen 18 = .ok (.iconst (-1), 1) := by decide +kernel
theorem dX7_seen_19 : decode cX7_seen 19 = .ok (.ireturn, 1) := by decide +kernel
theorem dX7_seen_20 : decode cX7_seen 20 = .ok (.aload_n 0, 1) := by decide +kernel
theorem dX7_seen_21 : decode cX7_seen 21 = .ok (.getfield 132, 3) := by decide +kernel
theorem dX7_seen_24 : decode cX7_seen 24 = .ok (.bipush 10, 2) := by decide +kernel
theorem dX7_seen_26 : decode cX7_seen 26 = .ok (.if_icmp .ne 6, 3) := by decide +kernel
theorem dX7_seen_29 : decode cX7_seen 29 = .ok (.bipush (-3), 2) := by decide +kernel
theorem dX7_seen_31 : decode cX7_seen 31 = .ok (.ireturn, 1) := by decide +kernel
theorem dX7_seen_32 : decode cX7_seen 32 = .ok (.aload_n 0, 1) := by decide +kernel
theorem dX7_seen_33 : decode cX7_seen 33 = .ok (.getfield 52, 3) := by decide +kernel
theorem dX7_seen_36 : decode cX7_seen 36 = .ok (.iconst 3, 1) := by decide +kernel
theorem dX7_seen_37 : decode cX7_seen 37 = .ok (.aload_n 0, 1) := by decide +kernel
theorem dX7_seen_38 : decode cX7_seen 38 = .ok (.getfield 132, 3) := by decide +kernel
theorem dX7_seen_41 : decode cX7_seen 41 = .ok (.imul, 1) := by decide +kernel
theorem dX7_seen_42 : decode cX7_seen 42 = .ok (.iload_n 1, 1) := by decide +kernel
theorem dX7_seen_43 : decode cX7_seen 43 = .ok (.iastore, 1) := by decide +kernel
theorem dX7_seen_44 : decode cX7_seen 44 = .ok (.aload_n 0, 1) := by decide +kernel
theorem dX7_seen_45 : decode cX7_seen 45 = .ok (.getfield 52, 3) := by decide +kernel
theorem dX7_seen_48 : decode cX7_seen 48 = .ok (.iconst 3, 1) := by decide +kernel
theorem dX7_seen_49 : decode cX7_seen 49 = .ok (.aload_n 0, 1) := by decide +kernel
theorem dX7_seen_50 : decode cX7_seen 50 = .ok (.getfield 132, 3) := by decide +kernel
theorem dX7_seen_53 : decode cX7_seen 53 = .ok (.imul, 1) := by decide +kernel
theorem dX7_seen_54 : decode cX7_seen 54 = .ok (.iconst 1, 1) := by decide +kernel
theorem dX7_seen_55 : decode cX7_seen 55 = .ok (.iadd, 1) := by decide +kernel
theorem dX7_seen_56 : decode cX7_seen 56 = .ok (.iload_n 2, 1) := by decide +kernel
theorem dX7_seen_57 : decode cX7_seen 57 = .ok (.iastore, 1) := by decide +kernel
theorem dX7_seen_58 : decode cX7_seen 58 = .ok (.aload_n 0, 1) := by decide +kernel
theorem dX7_seen_59 : decode cX7_seen 59 = .ok (.getfield 52, 3) := by decide +kernel
theorem dX7_seen_62 : decode cX7_seen 62 = .ok (.iconst 3, 1) := by decide +kernel
theorem dX7_seen_63 : decode cX7_seen 63 = .ok (.aload_n 0, 1) := by decide +kernel
theorem dX7_seen_64 : decode cX7_seen 64 = .ok (.getfield 132, 3) := by decide +kernel
theorem dX7_seen_67 : decode cX7_seen 67 = .ok (.imul, 1) := by decide +kernel
theorem dX7_seen_68 : decode cX7_seen 68 = .ok (.iconst 2, 1) := by decide +kernel
theorem dX7_seen_69 : decode cX7_seen 69 = .ok (.iadd, 1) := by decide +kernel
theorem dX7_seen_70 : decode cX7_seen 70 = .ok (.iload_n 3, 1) := by decide +kernel
theorem dX7_seen_71 : decode cX7_seen 71 = .ok (.invokestatic 155, 3) := by decide +kernel
theorem dX7_seen_74 : decode cX7_seen 74 = .ok (.iastore, 1) := by decide +kernel
theorem dX7_seen_75 : decode cX7_seen 75 = .ok (.aload_n 0, 1) := by decide +kernel
theorem dX7_seen_76 : decode cX7_seen 76 = .ok (.dup, 1) := by decide +kernel
theorem dX7_seen_77 : decode cX7_seen 77 = .ok (.getfield 132, 3) := by decide +kernel
theorem dX7_seen_80 : decode cX7_seen 80 = .ok (.iconst 1, 1) := by decide +kernel
theorem dX7_seen_81 : decode cX7_seen 81 = .ok (.iadd, 1) := by decide +kernel
theorem dX7_seen_82 : decode cX7_seen 82 = .ok (.putfield 132, 3) := by decide +kernel
theorem dX7_seen_85 : decode cX7_seen 85 = .ok (.aload_n 0, 1) := by decide +kernel
theorem dX7_seen_86 : decode cX7_seen 86 = .ok (.getfield 132, 3) := by decide +kernel
theorem dX7_seen_89 : decode cX7_seen 89 = .ok (.ireturn, 1) := by decide +kernel
theorem dX7_forget_0 : decode cX7_forget 0 = .ok (.aload_n 0, 1) := by decide +kernel
theorem dX7_forget_1 : decode cX7_forget 1 = .ok (.getfield 132, 3) := by decide +kernel
theorem dX7_forget_4 : decode cX7_forget 4 = .ok (.istore_n 1, 1) := by decide +kernel
theorem dX7_forget_5 : decode cX7_forget 5 = .ok (.aload_n 0, 1) := by decide +kernel
theorem dX7_forget_6 : decode cX7_forget 6 = .ok (.iconst 0, 1) := by decide +kernel
theorem dX7_forget_7 : decode cX7_forget 7 = .ok (.putfield 132, 3) := by decide +kernel
theorem dX7_forget_10 : decode cX7_forget 10 = .ok (.iload_n 1, 1) := by decide +kernel
theorem dX7_forget_11 : decode cX7_forget 11 = .ok (.ireturn, 1) := by decide +kernel
set_option maxRecDepth 20000 in
theorem ggX7_isAsSeen_X7_isWarm : GoodIn wsX7_isAsSeen wsX7_isWarm := goodIn_r _ [8, 9, 10, 11, 12, 13, 14, 15, 7, 16, 17, 18, 19, 34, 35, 36, 37, 38, 39, 40, 41, 42, 43, 44, 45, 46, 47, 48, 49, 50, 51, 52, 53, 54, 55, 56, 57, 58, 59, 60, 61, 62, 63, 64, 65, 66, 67, 68] (by decide +kernel) (by decide +kernel)
set_option maxRecDepth 20000 in
theorem gX7_isAsSeen_X7_isWarm : GoodIn wsX7_isAsSeen (wsV RX7 159 RX7 yX7_isWarm wsX7_isWarm) := goodIn_app (goodIn_of _ (by decide +kernel)) ggX7_isAsSeen_X7_isWarm
set_option maxRecDepth 20000 in
theorem ggX7_isAsSeen_X7_bit : GoodIn wsX7_isAsSeen wsX7_bit := goodIn_r _ [22] (by decide +kernel) (by decide +kernel)
set_option maxRecDepth 20000 in
theorem gX7_isAsSeen_X7_bit : GoodIn wsX7_isAsSeen (va_wsS RX7 155 yX7_bit wsX7_bit) := goodIn_app (goodIn_of _ (by decide +kernel)) ggX7_isAsSeen_X7_bit
set_option maxRecDepth 20000 in
theorem ggX7_isAsSeen_X7_ring : GoodIn wsX7_isAsSeen wsX7_ring := goodIn_r _ [26, 27, 28, 29, 30, 31, 32, 33, 34, 35, 36, 37, 38, 39, 40, 41, 42, 43, 44, 45, 46, 47, 48, 49, 50, 51, 52, 53, 54, 55, 56, 57, 58, 59, 60, 61, 62, 63, 64, 65, 66, 67, 68] (by decide +kernel) (by decide +kernel)
set_option maxRecDepth 20000 in
theorem gX7_isAsSeen_X7_ring : GoodIn wsX7_isAsSeen (wsV RX7 145 RX7 yX7_ring wsX7_ring) := goodIn_app (goodIn_of _ (by decide +kernel)) ggX7_isAsSeen_X7_ring
theorem dX7_isAsSeen_0 : decode cX7_isAsSeen 0 = .ok (.iconst 1, 1) := by decide +kernel
theorem dX7_isAsSeen_1 : decode cX7_isAsSeen 1 = .ok (.istore_n 1, 1) := by decide +kernel
theorem dX7_isAsSeen_2 : decode cX7_isAsSeen 2 = .ok (.iconst 0, 1) := by decide +kernel
theorem dX7_isAsSeen_3 : decode cX7_isAsSeen 3 = .ok (.istore_n 2, 1) := by decide +kernel
theorem dX7_isAsSeen_4 : decode cX7_isAsSeen 4 = .ok (.iload_n 2, 1) := by decide +kernel
theorem dX7_isAsSeen_5 : decode cX7_isAsSeen 5 = .ok (.bipush 61, 2) := by decide +kernel
theorem dX7_isAsSeen_7 : decode cX7_isAsSeen 7 = .ok (.if_icmp .ge 93, 3) := by decide +kernel
theorem dX7_isAsSeen_10 : decode cX7_isAsSeen 10 = .ok (.iload_n 1, 1) := by decide +kernel
theorem dX7_isAsSeen_11 : decode cX7_isAsSeen 11 = .ok (.ifCond .eq 89, 3) := by decide +kernel
theorem dX7_isAsSeen_14 : decode cX7_isAsSeen 14 = .ok (.iconst 0, 1) := by decide +kernel
theorem dX7_isAsSeen_15 : decode cX7_isAsSeen 15 = .ok (.istore_n 3, 1) := by decide +kernel
theorem dX7_isAsSeen_16 : decode cX7_isAsSeen 16 = .ok (.iload_n 3, 1) := by decide +kernel
theorem dX7_isAsSeen_17 : decode cX7_isAsSeen 17 = .ok (.aload_n 0, 1) := by decide +kernel
theorem dX7_isAsSeen_18 : decode cX7_isAsSeen 18 = .ok (.getfield 132, 3) := by decide +kernel
theorem dX7_isAsSeen_21 : decode cX7_isAsSeen 21 = .ok (.if_icmp .ge 65, 3) := by decide +kernel
theorem dX7_isAsSeen_24 : decode cX7_isAsSeen 24 = .ok (.iload_n 1, 1) := by decide +kernel
theorem dX7_isAsSeen_25 : decode cX7_isAsSeen 25 = .ok (.ifCond .eq 53, 3) := by decide +kernel
theorem dX7_isAsSeen_28 : decode cX7_isAsSeen 28 = .ok (.aload_n 0, 1) := by decide +kernel
theorem dX7_isAsSeen_29 : decode cX7_isAsSeen 29 = .ok (.getfield 52, 3) := by decide +kernel
theorem dX7_isAsSeen_32 : decode cX7_isAsSeen 32 = .ok (.iconst 3, 1) := by decide +kernel
theorem dX7_isAsSeen_33 : decode cX7_isAsSeen 33 = .ok (.iload_n 3, 1) := by decide +kernel
theorem dX7_isAsSeen_34 : decode cX7_isAsSeen 34 = .ok (.imul, 1) := by decide +kernel
theorem dX7_isAsSeen_35 : decode cX7_isAsSeen 35 = .ok (.iconst 1, 1) := by decide +kernel
theorem dX7_isAsSeen_36 : decode cX7_isAsSeen 36 = .ok (.iadd, 1) := by decide +kernel
theorem dX7_isAsSeen_37 : decode cX7_isAsSeen 37 = .ok (.iaload, 1) := by decide +kernel
theorem dX7_isAsSeen_38 : decode cX7_isAsSeen 38 = .ok (.iload_n 2, 1) := by decide +kernel
theorem dX7_isAsSeen_39 : decode cX7_isAsSeen 39 = .ok (.if_icmp .ne 35, 3) := by decide +kernel
theorem dX7_isAsSeen_42 : decode cX7_isAsSeen 42 = .ok (.aload_n 0, 1) := by decide +kernel
theorem dX7_isAsSeen_43 : decode cX7_isAsSeen 43 = .ok (.aload_n 0, 1) := by decide +kernel
theorem dX7_isAsSeen_44 : decode cX7_isAsSeen 44 = .ok (.getfield 43, 3) := by decide +kernel
theorem dX7_isAsSeen_47 : decode cX7_isAsSeen 47 = .ok (.aload_n 0, 1) := by decide +kernel
theorem dX7_isAsSeen_48 : decode cX7_isAsSeen 48 = .ok (.getfield 52, 3) := by decide +kernel
theorem dX7_isAsSeen_51 : decode cX7_isAsSeen 51 = .ok (.iconst 3, 1) := by decide +kernel
theorem dX7_isAsSeen_52 : decode cX7_isAsSeen 52 = .ok (.iload_n 3, 1) := by decide +kernel
theorem dX7_isAsSeen_53 : decode cX7_isAsSeen 53 = .ok (.imul, 1) := by decide +kernel
theorem dX7_isAsSeen_54 : decode cX7_isAsSeen 54 = .ok (.iaload, 1) := by decide +kernel
theorem dX7_isAsSeen_55 : decode cX7_isAsSeen 55 = .ok (.invokevirtual 159, 3) := by decide +kernel
theorem dX7_isAsSeen_58 : decode cX7_isAsSeen 58 = .ok (.invokestatic 155, 3) := by decide +kernel
theorem dX7_isAsSeen_61 : decode cX7_isAsSeen 61 = .ok (.aload_n 0, 1) := by decide +kernel
theorem dX7_isAsSeen_62 : decode cX7_isAsSeen 62 = .ok (.getfield 52, 3) := by decide +kernel
theorem dX7_isAsSeen_65 : decode cX7_isAsSeen 65 = .ok (.iconst 3, 1) := by decide +kernel
theorem dX7_isAsSeen_66 : decode cX7_isAsSeen 66 = .ok (.iload_n 3, 1) := by decide +kernel
theorem dX7_isAsSeen_67 : decode cX7_isAsSeen 67 = .ok (.imul, 1) := by decide +kernel
theorem dX7_isAsSeen_68 : decode cX7_isAsSeen 68 = .ok (.iconst 2, 1) := by decide +kernel
theorem dX7_isAsSeen_69 : decode cX7_isAsSeen 69 = .ok (.iadd, 1) := by decide +kernel
theorem dX7_isAsSeen_70 : decode cX7_isAsSeen 70 = .ok (.iaload, 1) := by decide +kernel
theorem dX7_isAsSeen_71 : decode cX7_isAsSeen 71 = .ok (.if_icmp .ne 7, 3) := by decide +kernel
theorem dX7_isAsSeen_74 : decode cX7_isAsSeen 74 = .ok (.iconst 1, 1) := by decide +kernel
theorem dX7_isAsSeen_75 : decode cX7_isAsSeen 75 = .ok (.goto 4, 3) := by decide +kernel
theorem dX7_isAsSeen_78 : decode cX7_isAsSeen 78 = .ok (.iconst 0, 1) := by decide +kernel
theorem dX7_isAsSeen_79 : decode cX7_isAsSeen 79 = .ok (.istore_n 1, 1) := by decide +kernel
theorem dX7_isAsSeen_80 : decode cX7_isAsSeen 80 = .ok (.iinc 3 1, 3) := by decide +kernel
theorem dX7_isAsSeen_83 : decode cX7_isAsSeen 83 = .ok (.goto (-67), 3) := by decide +kernel
theorem dX7_isAsSeen_86 : decode cX7_isAsSeen 86 = .ok (.aload_n 0, 1) := by decide +kernel
theorem dX7_isAsSeen_87 : decode cX7_isAsSeen 87 = .ok (.aload_n 0, 1) := by decide +kernel
theorem dX7_isAsSeen_88 : decode cX7_isAsSeen 88 = .ok (.getfield 43, 3) := by decide +kernel
theorem dX7_isAsSeen_91 : decode cX7_isAsSeen 91 = .ok (.invokevirtual 145, 3) := by decide +kernel
theorem dX7_isAsSeen_94 : decode cX7_isAsSeen 94 = .ok (.iinc 2 1, 3) := by decide +kernel
theorem dX7_isAsSeen_97 : decode cX7_isAsSeen 97 = .ok (.goto (-93), 3) := by decide +kernel
theorem dX7_isAsSeen_100 : decode cX7_isAsSeen 100 = .ok (.iload_n 1, 1) := by decide +kernel
theorem dX7_isAsSeen_101 : decode cX7_isAsSeen 101 = .ok (.ireturn, 1) := by decide +kernel
set_option maxRecDepth 20000 in
theorem ggX7_isAsSeenBy_X7_begin : GoodIn wsX7_isAsSeenBy wsX7_begin := goodIn_r _ [7, 8, 9, 44, 45, 46, 47, 48, 49, 50, 51, 52, 53, 54, 55, 56, 57, 58, 59, 60, 61, 62, 63, 64, 65, 66, 67, 68, 69, 70, 71, 72, 73, 74, 75, 76, 77, 78] (by decide +kernel) (by decide +kernel)
set_option maxRecDepth 20000 in
theorem gX7_isAsSeenBy_X7_begin : GoodIn wsX7_isAsSeenBy (wsV RX7 80 RX7 yX7_begin wsX7_begin) := goodIn_app (goodIn_of _ (by decide +kernel)) ggX7_isAsSeenBy_X7_begin
set_option maxRecDepth 20000 in
theorem ggX7_isAsSeenBy_X7_isAsSeen : GoodIn wsX7_isAsSeenBy wsX7_isAsSeen := goodIn_r _ [13, 14, 15, 1, 16, 17, 18, 6, 19, 20, 21, 22, 23, 24, 25, 26, 27, 28, 29, 30, 31, 32, 33, 34, 35, 36, 37, 2, 38, 39, 40, 41, 42, 43, 44, 45, 46, 47, 48, 49, 50, 51, 52, 53, 54, 55, 56, 57, 58, 59, 60, 61, 62, 63, 64, 65, 66, 67, 68, 69, 70, 71, 72, 73, 74, 75, 76, 77, 78] (by decide +kernel) (by decide +kernel)
set_option maxRecDepth 20000 in
theorem gX7_isAsSeenBy_X7_isAsSeen : GoodIn wsX7_isAsSeenBy (wsV RX7 176 RX7 yX7_isAsSeen wsX7_isAsSeen) := goodIn_app (goodIn_of _ (by decide +kernel)) ggX7_isAsSeenBy_X7_isAsSeen
theorem dX7_isAsSeenBy_0 : decode cX7_isAsSeenBy 0 = .ok (.aload_n 0, 1) := by decide +kernel
theorem dX7_isAsSeenBy_1 : decode cX7_isAsSeenBy 1 = .ok (.aload_n 0, 1) := by decide +kernel
theorem dX7_isAsSeenBy_2 : decode cX7_isAsSeenBy 2 = .ok (.getfield 43, 3) := by decide +kernel
theorem dX7_isAsSeenBy_5 : decode cX7_isAsSeenBy 5 = .ok (.invokevirtual 80, 3) := by decide +kernel
theorem dX7_isAsSeenBy_8 : decode cX7_isAsSeenBy 8 = .ok (.iconst 0, 1) := by decide +kernel
theorem dX7_isAsSeenBy_9 : decode cX7_isAsSeenBy 9 = .ok (.istore_n 2, 1) := by decide +kernel
theorem dX7_isAsSeenBy_10 : decode cX7_isAsSeenBy 10 = .ok (.iload_n 2, 1) := by decide +kernel
theorem dX7_isAsSeenBy_11 : decode cX7_isAsSeenBy 11 = .ok (.aload_n 0, 1) := by decide +kernel
theorem dX7_isAsSeenBy_12 : decode cX7_isAsSeenBy 12 = .ok (.getfield 71, 3) := by decide +kernel
theorem dX7_isAsSeenBy_15 : decode cX7_isAsSeenBy 15 = .ok (.if_icmp .ge 23, 3) := by decide +kernel
theorem dX7_isAsSeenBy_18 : decode cX7_isAsSeenBy 18 = .ok (.aload_n 0, 1) := by decide +kernel
theorem dX7_isAsSeenBy_19 : decode cX7_isAsSeenBy 19 = .ok (.getfield 43, 3) := by decide +kernel
theorem dX7_isAsSeenBy_22 : decode cX7_isAsSeenBy 22 = .ok (.bipush 12, 2) := by decide +kernel
theorem dX7_isAsSeenBy_24 : decode cX7_isAsSeenBy 24 = .ok (.iload_n 2, 1) := by decide +kernel
theorem dX7_isAsSeenBy_25 : decode cX7_isAsSeenBy 25 = .ok (.iadd, 1) := by decide +kernel
theorem dX7_isAsSeenBy_26 : decode cX7_isAsSeenBy 26 = .ok (.iload_n 1, 1) := by decide +kernel
theorem dX7_isAsSeenBy_27 : decode cX7_isAsSeenBy 27 = .ok (.iload_n 2, 1) := by decide +kernel
theorem dX7_isAsSeenBy_28 : decode cX7_isAsSeenBy 28 = .ok (.ishr, 1) := by decide +kernel
theorem dX7_isAsSeenBy_29 : decode cX7_isAsSeenBy 29 = .ok (.iconst 1, 1) := by decide +kernel
theorem dX7_isAsSeenBy_30 : decode cX7_isAsSeenBy 30 = .ok (.iand, 1) := by decide +kernel
theorem dX7_isAsSeenBy_31 : decode cX7_isAsSeenBy 31 = .ok (.iastore, 1) := by decide +kernel
theorem dX7_isAsSeenBy_32 : decode cX7_isAsSeenBy 32 = .ok (.iinc 2 1, 3) := by decide +kernel
theorem dX7_isAsSeenBy_35 : decode cX7_isAsSeenBy 35 = .ok (.goto (-25), 3) := by decide +kernel
theorem dX7_isAsSeenBy_38 : decode cX7_isAsSeenBy 38 = .ok (.aload_n 0, 1) := by decide +kernel
theorem dX7_isAsSeenBy_39 : decode cX7_isAsSeenBy 39 = .ok (.invokevirtual 176, 3) := by decide +kernel
theorem dX7_isAsSeenBy_42 : decode cX7_isAsSeenBy 42 = .ok (.ireturn, 1) := by decide +kernel
theorem dX7_oiled_0 : decode cX7_oiled 0 = .ok (.iconst 0, 1) := by decide +kernel
theorem dX7_oiled_1 : decode cX7_oiled 1 = .ok (.istore_n 1, 1) := by decide +kernel
theorem dX7_oiled_2 : decode cX7_oiled 2 = .ok (.iconst 0, 1) := by decide +kernel
theorem dX7_oiled_3 : decode cX7_oiled 3 = .ok (.istore_n 2, 1) := by decide +kernel
theorem dX7_oiled_4 : decode cX7_oiled 4 = .ok (.iload_n 2, 1) := by decide +kernel
theorem dX7_oiled_5 : decode cX7_oiled 5 = .ok (.aload_n 0, 1) := by decide +kernel
theorem dX7_oiled_6 : decode cX7_oiled 6 = .ok (.getfield 71, 3) := by decide +kernel
theorem dX7_oiled_9 : decode cX7_oiled 9 = .ok (.if_icmp .ge 28, 3) := by decide +kernel
theorem dX7_oiled_12 : decode cX7_oiled 12 = .ok (.iload_n 1, 1) := by decide +kernel
theorem dX7_oiled_13 : decode cX7_oiled 13 = .ok (.aload_n 0, 1) := by decide +kernel
theorem dX7_oiled_14 : decode cX7_oiled 14 = .ok (.getfield 31, 3) := by decide +kernel
theorem dX7_oiled_17 : decode cX7_oiled 17 = .ok (.iload_n 2, 1) := by decide +kernel
theorem dX7_oiled_18 : decode cX7_oiled 18 = .ok (.iaload, 1) := by decide +kernel
theorem dX7_oiled_19 : decode cX7_oiled 19 = .ok (.ifCond .le 9, 3) := by decide +kernel
theorem dX7_oiled_22 : decode cX7_oiled 22 = .ok (.iconst 1, 1) := by decide +kernel
theorem dX7_oiled_23 : decode cX7_oiled 23 = .ok (.iload_n 2, 1) := by decide +kernel
theorem dX7_oiled_24 : decode cX7_oiled 24 = .ok (.ishl, 1) := by decide +kernel
theorem dX7_oiled_25 : decode cX7_oiled 25 = .ok (.goto 4, 3) := by decide +kernel
theorem dX7_oiled_28 : decode cX7_oiled 28 = .ok (.iconst 0, 1) := by decide +kernel
theorem dX7_oiled_29 : decode cX7_oiled 29 = .ok (.ior, 1) := by decide +kernel
theorem dX7_oiled_30 : decode cX7_oiled 30 = .ok (.istore_n 1, 1) := by decide +kernel
theorem dX7_oiled_31 : decode cX7_oiled 31 = .ok (.iinc 2 1, 3) := by decide +kernel
theorem dX7_oiled_34 : decode cX7_oiled 34 = .ok (.goto (-30), 3) := by decide +kernel
theorem dX7_oiled_37 : decode cX7_oiled 37 = .ok (.iload_n 1, 1) := by decide +kernel
theorem dX7_oiled_38 : decode cX7_oiled 38 = .ok (.ireturn, 1) := by decide +kernel
set_option maxRecDepth 20000 in
theorem ggX7_fitsWith_X7_oiled : GoodIn wsX7_fitsWith wsX7_oiled := goodIn_r _ [6, 1, 7, 55, 56, 57, 58, 59, 60, 61, 62, 63, 64, 65, 66, 67, 68, 69, 70, 71, 72, 73, 74, 75, 76, 77, 78, 79, 80, 81, 82, 83, 84, 85, 86, 87, 88, 89] (by decide +kernel) (by decide +kernel)
set_option maxRecDepth 20000 in
theorem gX7_fitsWith_X7_oiled : GoodIn wsX7_fitsWith (wsV RX7 179 RX7 yX7_oiled wsX7_oiled) := goodIn_app (goodIn_of _ (by decide +kernel)) ggX7_fitsWith_X7_oiled
set_option maxRecDepth 20000 in
theorem ggX7_fitsWith_X7_has : GoodIn wsX7_fitsWith wsX7_has := goodIn_r _ [10] (by decide +kernel) (by decide +kernel)
set_option maxRecDepth 20000 in
theorem gX7_fitsWith_X7_has : GoodIn wsX7_fitsWith (va_wsS RX7 182 yX7_has wsX7_has) := goodIn_app (goodIn_of _ (by decide +kernel)) ggX7_fitsWith_X7_has
set_option maxRecDepth 20000 in
theorem ggX7_fitsWith_X7_isAsSeenBy : GoodIn wsX7_fitsWith wsX7_isAsSeenBy := goodIn_r _ [14, 15, 1, 16, 17, 18, 5, 19, 7, 20, 21, 22, 23, 24, 25, 26, 27, 28, 29, 30, 31, 32, 33, 34, 35, 36, 37, 38, 39, 40, 41, 42, 43, 44, 45, 46, 47, 48, 49, 50, 51, 52, 53, 54, 55, 56, 57, 58, 59, 60, 61, 62, 63, 64, 65, 66, 67, 68, 69, 70, 71, 72, 73, 74, 75, 76, 77, 78, 79, 80, 81, 82, 83, 84, 85, 86, 87, 88, 89] (by decide +kernel) (by decide +kernel)
set_option maxRecDepth 20000 in
theorem gX7_fitsWith_X7_isAsSeenBy : GoodIn wsX7_fitsWith (wsV RX7 186 RX7 yX7_isAsSeenBy wsX7_isAsSeenBy) := goodIn_app (goodIn_of _ (by decide +kernel)) ggX7_fitsWith_X7_isAsSeenBy
theorem dX7_fitsWith_0 : decode cX7_fitsWith 0 = .ok (.iconst 0, 1) := by decide +kernel
theorem dX7_fitsWith_1 : decode cX7_fitsWith 1 = .ok (.istore_n 2, 1) := by decide +kernel
theorem dX7_fitsWith_2 : decode cX7_fitsWith 2 = .ok (.iconst 0, 1) := by decide +kernel
theorem dX7_fitsWith_3 : decode cX7_fitsWith 3 = .ok (.istore_n 3, 1) := by decide +kernel
theorem dX7_fitsWith_4 : decode cX7_fitsWith 4 = .ok (.iload_n 3, 1) := by decide +kernel
theorem dX7_fitsWith_5 : decode cX7_fitsWith 5 = .ok (.iconst 1, 1) := by decide +kernel
theorem dX7_fitsWith_6 : decode cX7_fitsWith 6 = .ok (.aload_n 0, 1) := by decide +kernel
theorem dX7_fitsWith_7 : decode cX7_fitsWith 7 = .ok (.getfield 71, 3) := by decide +kernel
theorem dX7_fitsWith_10 : decode cX7_fitsWith 10 = .ok (.ishl, 1) := by decide +kernel
theorem dX7_fitsWith_11 : decode cX7_fitsWith 11 = .ok (.if_icmp .ge 60, 3) := by decide +kernel
theorem dX7_fitsWith_14 : decode cX7_fitsWith 14 = .ok (.iload_n 3, 1) := by decide +kernel
theorem dX7_fitsWith_15 : decode cX7_fitsWith 15 = .ok (.aload_n 0, 1) := by decide +kernel
theorem dX7_fitsWith_16 : decode cX7_fitsWith 16 = .ok (.invokevirtual 179, 3) := by decide +kernel
theorem dX7_fitsWith_19 : decode cX7_fitsWith 19 = .ok (.iconst (-1), 1) := by decide +kernel
theorem dX7_fitsWith_20 : decode cX7_fitsWith 20 = .ok (.ixor, 1) := by decide +kernel
theorem dX7_fitsWith_21 : decode cX7_fitsWith 21 = .ok (.iand, 1) := by decide +kernel
theorem dX7_fitsWith_22 : decode cX7_fitsWith 22 = .ok (.ifCond .ne 19, 3) := by decide +kernel
theorem dX7_fitsWith_25 : decode cX7_fitsWith 25 = .ok (.iload_n 1, 1) := by decide +kernel
theorem dX7_fitsWith_26 : decode cX7_fitsWith 26 = .ok (.ifCond .lt 11, 3) := by decide +kernel
theorem dX7_fitsWith_29 : decode cX7_fitsWith 29 = .ok (.iload_n 3, 1) := by decide +kernel
theorem dX7_fitsWith_30 : decode cX7_fitsWith 30 = .ok (.iload_n 1, 1) := by decide +kernel
theorem dX7_fitsWith_31 : decode cX7_fitsWith 31 = .ok (.invokestatic 182, 3) := by decide +kernel
theorem dX7_fitsWith_34 : decode cX7_fitsWith 34 = .ok (.ifCond .eq 7, 3) := by decide +kernel
theorem dX7_fitsWith_37 : decode cX7_fitsWith 37 = .ok (.iconst 1, 1) := by decide +kernel
theorem dX7_fitsWith_38 : decode cX7_fitsWith 38 = .ok (.goto 4, 3) := by decide +kernel
theorem dX7_fitsWith_41 : decode cX7_fitsWith 41 = .ok (.iconst 0, 1) := by decide +kernel
theorem dX7_fitsWith_42 : decode cX7_fitsWith 42 = .ok (.istore 4, 2) := by decide +kernel
theorem dX7_fitsWith_44 : decode cX7_fitsWith 44 = .ok (.iload_n 2, 1) := by decide +kernel
theorem dX7_fitsWith_45 : decode cX7_fitsWith 45 = .ok (.iload 4, 2) := by decide +kernel
theorem dX7_fitsWith_47 : decode cX7_fitsWith 47 = .ok (.ifCond .eq 15, 3) := by decide +kernel
theorem dX7_fitsWith_50 : decode cX7_fitsWith 50 = .ok (.aload_n 0, 1) := by decide +kernel
theorem dX7_fitsWith_51 : decode cX7_fitsWith 51 = .ok (.iload_n 3, 1) := by decide +kernel
theorem dX7_fitsWith_52 : decode cX7_fitsWith 52 = .ok (.invokevirtual 186, 3) := by decide +kernel
theorem dX7_fitsWith_55 : decode cX7_fitsWith 55 = .ok (.ifCond .eq 7, 3) := by decide +kernel
theorem dX7_fitsWith_58 : decode cX7_fitsWith 58 = .ok (.iconst 1, 1) := by decide +kernel
theorem dX7_fitsWith_59 : decode cX7_fitsWith 59 = .ok (.goto 4, 3) := by decide +kernel
theorem dX7_fitsWith_62 : decode cX7_fitsWith 62 = .ok (.iconst 0, 1) := by decide +kernel
theorem dX7_fitsWith_63 : decode cX7_fitsWith 63 = .ok (.iadd, 1) := by decide +kernel
theorem dX7_fitsWith_64 : decode cX7_fitsWith 64 = .ok (.istore_n 2, 1) := by decide +kernel
theorem dX7_fitsWith_65 : decode cX7_fitsWith 65 = .ok (.iinc 3 1, 3) := by decide +kernel
theorem dX7_fitsWith_68 : decode cX7_fitsWith 68 = .ok (.goto (-64), 3) := by decide +kernel
theorem dX7_fitsWith_71 : decode cX7_fitsWith 71 = .ok (.iload_n 2, 1) := by decide +kernel
theorem dX7_fitsWith_72 : decode cX7_fitsWith 72 = .ok (.ireturn, 1) := by decide +kernel
set_option maxRecDepth 20000 in
theorem ggX7_fits_X7_fitsWith : GoodIn wsX7_fits wsX7_fitsWith := goodIn_r _ [5, 6, 7, 8, 9, 4, 10, 11, 12, 13, 14, 15, 16, 17, 18, 19, 20, 21, 22, 23, 24, 25, 26, 27, 28, 29, 30, 31, 32, 33, 34, 35, 36, 37, 38, 39, 40, 41, 42, 43, 44, 45, 46, 47, 48, 49, 50, 51, 52, 53, 54, 55, 56, 57, 58, 59, 60, 61, 62, 63, 64, 65, 66, 67, 68, 69, 70, 71, 72, 73, 74, 75, 76, 77, 78, 79, 80, 81, 82, 83, 84, 85, 86, 87, 88, 89, 90, 91, 92, 93] (by decide +kernel) (by decide +kernel)
set_option maxRecDepth 20000 in
theorem gX7_fits_X7_fitsWith : GoodIn wsX7_fits (wsV RX7 189 RX7 yX7_fitsWith wsX7_fitsWith) := goodIn_app (goodIn_of _ (by decide +kernel)) ggX7_fits_X7_fitsWith
theorem dX7_fits_0 : decode cX7_fits 0 = .ok (.aload_n 0, 1) := by decide +kernel
theorem dX7_fits_1 : decode cX7_fits 1 = .ok (.iconst (-1), 1) := by decide +kernel
theorem dX7_fits_2 : decode cX7_fits 2 = .ok (.invokevirtual 189, 3) := by decide +kernel
theorem dX7_fits_5 : decode cX7_fits 5 = .ok (.ireturn, 1) := by decide +kernel
set_option maxRecDepth 20000 in
theorem ggX7_odds_X7_isMan : GoodIn wsX7_odds wsX7_isMan := goodIn_r _ [5, 6, 7, 8, 4, 9, 63, 64, 65, 66, 67, 68, 69, 70, 71, 72, 73, 74, 75, 76, 77, 78, 79, 80, 81, 82, 83, 84, 85, 86, 87, 88, 89, 90, 91, 92, 93, 94, 95, 96, 97] (by decide +kernel) (by decide +kernel)
set_option maxRecDepth 20000 in
theorem gX7_odds_X7_isMan : GoodIn wsX7_odds (wsV RX7 152 RX7 yX7_isMan wsX7_isMan) := goodIn_app (goodIn_of _ (by decide +kernel)) ggX7_odds_X7_isMan
set_option maxRecDepth 20000 in
theorem ggX7_odds_X7_in : GoodIn wsX7_odds wsX7_in := goodIn_r _ [9] (by decide +kernel) (by decide +kernel)
set_option maxRecDepth 20000 in
theorem gX7_odds_X7_in : GoodIn wsX7_odds (va_wsS RX7 84 yX7_in wsX7_in) := goodIn_app (goodIn_of _ (by decide +kernel)) ggX7_odds_X7_in
set_option maxRecDepth 20000 in
theorem ggX7_odds_X7_fitsWith : GoodIn wsX7_odds wsX7_fitsWith := goodIn_r _ [13, 6, 14, 15, 16, 4, 17, 18, 19, 20, 21, 22, 23, 24, 25, 26, 27, 28, 29, 30, 31, 32, 33, 34, 35, 36, 37, 38, 39, 40, 41, 42, 43, 44, 45, 46, 47, 48, 49, 7, 8, 9, 50, 51, 52, 53, 54, 55, 56, 57, 58, 59, 60, 61, 62, 63, 64, 65, 66, 67, 68, 69, 70, 71, 72, 73, 74, 75, 76, 77, 78, 79, 80, 81, 82, 83, 84, 85, 86, 87, 88, 89, 90, 91, 92, 93, 94, 95, 96, 97] (by decide +kernel) (by decide +kernel)
set_option maxRecDepth 20000 in
theorem gX7_odds_X7_fitsWith : GoodIn wsX7_odds (wsV RX7 189 RX7 yX7_fitsWith wsX7_fitsWith) := goodIn_app (goodIn_of _ (by decide +kernel)) ggX7_odds_X7_fitsWith
theorem dX7_odds_0 : decode cX7_odds 0 = .ok (.aload_n 0, 1) := by decide +kernel
theorem dX7_odds_1 : decode cX7_odds 1 = .ok (.iload_n 1, 1) := by decide +kernel
theorem dX7_odds_2 : decode cX7_odds 2 = .ok (.invokevirtual 152, 3) := by decide +kernel
theorem dX7_odds_5 : decode cX7_odds 5 = .ok (.ifCond .eq 12, 3) := by decide +kernel
theorem dX7_odds_8 : decode cX7_odds 8 = .ok (.iload_n 2, 1) := by decide +kernel
theorem dX7_odds_9 : decode cX7_odds 9 = .ok (.iconst 0, 1) := by decide +kernel
theorem dX7_odds_10 : decode cX7_odds 10 = .ok (.iconst 1, 1) := by decide +kernel
theorem dX7_odds_11 : decode cX7_odds 11 = .ok (.invokestatic 84, 3) := by decide +kernel
theorem dX7_odds_14 : decode cX7_odds 14 = .ok (.ifCond .ne 5, 3) := by decide +kernel
theorem dX7_odds_17 : decode cX7_odds 17 = .ok (.iconst (-1), 1) := by decide +kernel
theorem dX7_odds_18 : decode cX7_odds 18 = .ok (.ireturn, 1) := by decide +kernel
theorem dX7_odds_19 : decode cX7_odds 19 = .ok (.aload_n 0, 1) := by decide +kernel
theorem dX7_odds_20 : decode cX7_odds 20 = .ok (.iconst (-1), 1) := by decide +kernel
theorem dX7_odds_21 : decode cX7_odds 21 = .ok (.invokevirtual 189, 3) := by decide +kernel
theorem dX7_odds_24 : decode cX7_odds 24 = .ok (.istore_n 3, 1) := by decide +kernel
theorem dX7_odds_25 : decode cX7_odds 25 = .ok (.iload_n 3, 1) := by decide +kernel
theorem dX7_odds_26 : decode cX7_odds 26 = .ok (.ifCond .ne 6, 3) := by decide +kernel
theorem dX7_odds_29 : decode cX7_odds 29 = .ok (.bipush (-4), 2) := by decide +kernel
theorem dX7_odds_31 : decode cX7_odds 31 = .ok (.ireturn, 1) := by decide +kernel
theorem dX7_odds_32 : decode cX7_odds 32 = .ok (.aload_n 0, 1) := by decide +kernel
theorem dX7_odds_33 : decode cX7_odds 33 = .ok (.iload_n 1, 1) := by decide +kernel
theorem dX7_odds_34 : decode cX7_odds 34 = .ok (.invokevirtual 189, 3) := by decide +kernel
theorem dX7_odds_37 : decode cX7_odds 37 = .ok (.istore 4, 2) := by decide +kernel
theorem dX7_odds_39 : decode cX7_odds 39 = .ok (.iload 4, 2) := by decide +kernel
theorem dX7_odds_41 : decode cX7_odds 41 = .ok (.istore 5, 2) := by decide +kernel
theorem dX7_odds_43 : decode cX7_odds 43 = .ok (.iload_n 3, 1) := by decide +kernel
theorem dX7_odds_44 : decode cX7_odds 44 = .ok (.istore 6, 2) := by decide +kernel
theorem dX7_odds_46 : decode cX7_odds 46 = .ok (.iload 6, 2) := by decide +kernel
theorem dX7_odds_48 : decode cX7_odds 48 = .ok (.ifCond .le 21, 3) := by decide +kernel
theorem dX7_odds_51 : decode cX7_odds 51 = .ok (.iload 5, 2) := by decide +kernel
theorem dX7_odds_53 : decode cX7_odds 53 = .ok (.iload 6, 2) := by decide +kernel
theorem dX7_odds_55 : decode cX7_odds 55 = .ok (.irem, 1) := by decide +kernel
theorem dX7_odds_56 : decode cX7_odds 56 = .ok (.istore 7, 2) := by decide +kernel
theorem dX7_odds_58 : decode cX7_odds 58 = .ok (.iload 6, 2) := by decide +kernel
theorem dX7_odds_60 : decode cX7_odds 60 = .ok (.istore 5, 2) := by decide +kernel
theorem dX7_odds_62 : decode cX7_odds 62 = .ok (.iload 7, 2) := by decide +kernel
theorem dX7_odds_64 : decode cX7_odds 64 = .ok (.istore 6, 2) := by decide +kernel
theorem dX7_odds_66 : decode cX7_odds 66 = .ok (.goto (-20), 3) := by decide +kernel
theorem dX7_odds_69 : decode cX7_odds 69 = .ok (.iload_n 2, 1) := by decide +kernel
theorem dX7_odds_70 : decode cX7_odds 70 = .ok (.ifCond .ne 8, 3) := by decide +kernel
theorem dX7_odds_73 : decode cX7_odds 73 = .ok (.iload 4, 2) := by decide +kernel
theorem dX7_odds_75 : decode cX7_odds 75 = .ok (.goto 4, 3) := by decide +kernel
theorem dX7_odds_78 : decode cX7_odds 78 = .ok (.iload_n 3, 1) := by decide +kernel
theorem dX7_odds_79 : decode cX7_odds 79 = .ok (.iload 5, 2) := by decide +kernel
theorem dX7_odds_81 : decode cX7_odds 81 = .ok (.idiv, 1) := by decide +kernel
theorem dX7_odds_82 : decode cX7_odds 82 = .ok (.ireturn, 1) := by decide +kernel
set_option maxRecDepth 20000 in
theorem ggX7_letOut_X7_in : GoodIn wsX7_letOut wsX7_in := goodIn_r _ [8] (by decide +kernel) (by decide +kernel)
set_option maxRecDepth 20000 in
theorem gX7_letOut_X7_in : GoodIn wsX7_letOut (va_wsS RX7 84 yX7_in wsX7_in) := goodIn_app (goodIn_of _ (by decide +kernel)) ggX7_letOut_X7_in
set_option maxRecDepth 20000 in
theorem ggX7_letOut_X7_begin : GoodIn wsX7_letOut wsX7_begin := goodIn_r _ [12, 13, 14, 44, 45, 46, 47, 48, 49, 50, 51, 52, 53, 54, 55, 56, 57, 58, 59, 60, 61, 62, 63, 64, 65, 66, 67, 68, 69, 70, 71, 72, 73, 74, 75, 76, 77, 78] (by decide +kernel) (by decide +kernel)
set_option maxRecDepth 20000 in
theorem gX7_letOut_X7_begin : GoodIn wsX7_letOut (wsV RX7 80 RX7 yX7_begin wsX7_begin) := goodIn_app (goodIn_of _ (by decide +kernel)) ggX7_letOut_X7_begin
set_option maxRecDepth 20000 in
theorem ggX7_letOut_X7_isAsSeen : GoodIn wsX7_letOut wsX7_isAsSeen := goodIn_r _ [18, 19, 20, 4, 21, 22, 23, 7, 24, 25, 26, 27, 28, 29, 30, 31, 32, 5, 6, 8, 33, 34, 35, 36, 37, 38, 39, 1, 40, 41, 42, 43, 2, 3, 44, 45, 46, 47, 48, 49, 50, 51, 52, 53, 54, 55, 56, 57, 58, 59, 60, 61, 62, 63, 64, 65, 66, 67, 68, 69, 70, 71, 72, 73, 74, 75, 76, 77, 78] (by decide +kernel) (by decide +kernel)
set_option maxRecDepth 20000 in
theorem gX7_letOut_X7_isAsSeen : GoodIn wsX7_letOut (wsV RX7 176 RX7 yX7_isAsSeen wsX7_isAsSeen) := goodIn_app (goodIn_of _ (by decide +kernel)) ggX7_letOut_X7_isAsSeen
theorem dX7_letOut_0 : decode cX7_letOut 0 = .ok (.iload_n 1, 1) := by decide +kernel
theorem dX7_letOut_1 : decode cX7_letOut 1 = .ok (.iconst 0, 1) := by decide +kernel
theorem dX7_letOut_2 : decode cX7_letOut 2 = .ok (.iconst 1, 1) := by decide +kernel
theorem dX7_letOut_3 : decode cX7_letOut 3 = .ok (.invokestatic 84, 3) := by decide +kernel
theorem dX7_letOut_6 : decode cX7_letOut 6 = .ok (.ifCond .ne 5, 3) := by decide +kernel
theorem dX7_letOut_9 : decode cX7_letOut 9 = .ok (.iconst (-1), 1) := by decide +kernel
theorem dX7_letOut_10 : decode cX7_letOut 10 = .ok (.ireturn, 1) := by decide +kernel
theorem dX7_letOut_11 : decode cX7_letOut 11 = .ok (.iconst 0, 1) := by decide +kernel
theorem dX7_letOut_12 : decode cX7_letOut 12 = .ok (.istore_n 2, 1) := by decide +kernel
theorem dX7_letOut_13 : decode cX7_letOut 13 = .ok (.bipush (-4), 2) := by decide +kernel
theorem dX7_letOut_15 : decode cX7_letOut 15 = .ok (.istore_n 3, 1) := by decide +kernel
theorem dX7_letOut_16 : decode cX7_letOut 16 = .ok (.iconst 1, 1) := by decide +kernel
theorem dX7_letOut_17 : decode cX7_letOut 17 = .ok (.istore 4, 2) := by decide +kernel
theorem dX7_letOut_19 : decode cX7_letOut 19 = .ok (.iload 4, 2) := by decide +kernel
theorem dX7_letOut_21 : decode cX7_letOut 21 = .ok (.bipush 61, 2) := by decide +kernel
theorem dX7_letOut_23 : decode cX7_letOut 23 = .ok (.if_icmp .ge 74, 3) := by decide +kernel
theorem dX7_letOut_26 : decode cX7_letOut 26 = .ok (.iconst 0, 1) := by decide +kernel
theorem dX7_letOut_27 : decode cX7_letOut 27 = .ok (.istore 5, 2) := by decide +kernel
theorem dX7_letOut_29 : decode cX7_letOut 29 = .ok (.iload 5, 2) := by decide +kernel
theorem dX7_letOut_31 : decode cX7_letOut 31 = .ok (.aload_n 0, 1) := by decide +kernel
theorem dX7_letOut_32 : decode cX7_letOut 32 = .ok (.getfield 71, 3) := by decide +kernel
theorem dX7_letOut_35 : decode cX7_letOut 35 = .ok (.if_icmp .ge 56, 3) := by decide +kernel
theorem dX7_letOut_38 : decode cX7_letOut 38 = .ok (.aload_n 0, 1) := by decide +kernel
theorem dX7_letOut_39 : decode cX7_letOut 39 = .ok (.iload 4, 2) := by decide +kernel
theorem dX7_letOut_41 : decode cX7_letOut 41 = .ok (.putfield 55, 3) := by decide +kernel
theorem dX7_letOut_44 : decode cX7_letOut 44 = .ok (.aload_n 0, 1) := by decide +kernel
theorem dX7_letOut_45 : decode cX7_letOut 45 = .ok (.iload 5, 2) := by decide +kernel
theorem dX7_letOut_47 : decode cX7_letOut 47 = .ok (.putfield 59, 3) := by decide +kernel
theorem dX7_letOut_50 : decode cX7_letOut 50 = .ok (.aload_n 0, 1) := by decide +kernel
theorem dX7_letOut_51 : decode cX7_letOut 51 = .ok (.aload_n 0, 1) := by decide +kernel
theorem dX7_letOut_52 : decode cX7_letOut 52 = .ok (.getfield 43, 3) := by decide +kernel
theorem dX7_letOut_55 : decode cX7_letOut 55 = .ok (.invokevirtual 80, 3) := by decide +kernel
theorem dX7_letOut_58 : decode cX7_letOut 58 = .ok (.aload_n 0, 1) := by decide +kernel
theorem dX7_letOut_59 : decode cX7_letOut 59 = .ok (.invokevirtual 176, 3) := by decide +kernel
theorem dX7_letOut_62 : decode cX7_letOut 62 = .ok (.ifCond .eq 23, 3) := by decide +kernel
theorem dX7_letOut_65 : decode cX7_letOut 65 = .ok (.iload_n 2, 1) := by decide +kernel
theorem dX7_letOut_66 : decode cX7_letOut 66 = .ok (.ifCond .ne 14, 3) := by decide +kernel
theorem dX7_letOut_69 : decode cX7_letOut 69 = .ok (.bipush 10, 2) := by decide +kernel
theorem dX7_letOut_71 : decode cX7_letOut 71 = .ok (.iload 4, 2) := by decide +kernel
theorem dX7_letOut_73 : decode cX7_letOut 73 = .ok (.imul, 1) := by decide +kernel
theorem dX7_letOut_74 : decode cX7_letOut 74 = .ok (.iload 5, 2) := by decide +kernel
theorem dX7_letOut_76 : decode cX7_letOut 76 = .ok (.iadd, 1) := by decide +kernel
theorem dX7_letOut_77 : decode cX7_letOut 77 = .ok (.goto 4, 3) := by decide +kernel
theorem dX7_letOut_80 : decode cX7_letOut 80 = .ok (.iload_n 3, 1) := by decide +kernel
theorem dX7_letOut_81 : decode cX7_letOut 81 = .ok (.istore_n 3, 1) := by decide +kernel
theorem dX7_letOut_82 : decode cX7_letOut 82 = .ok (.iinc 2 1, 3) := by decide +kernel
theorem dX7_letOut_85 : decode cX7_letOut 85 = .ok (.iinc 5 1, 3) := by decide +kernel
theorem dX7_letOut_88 : decode cX7_letOut 88 = .ok (.goto (-59), 3) := by decide +kernel
theorem dX7_letOut_91 : decode cX7_letOut 91 = .ok (.iinc 4 1, 3) := by decide +kernel
theorem dX7_letOut_94 : decode cX7_letOut 94 = .ok (.goto (-75), 3) := by decide +kernel
theorem dX7_letOut_97 : decode cX7_letOut 97 = .ok (.aload_n 0, 1) := by decide +kernel
theorem dX7_letOut_98 : decode cX7_letOut 98 = .ok (.iconst (-1), 1) := by decide +kernel
theorem dX7_letOut_99 : decode cX7_letOut 99 = .ok (.putfield 55, 3) := by decide +kernel
theorem dX7_letOut_102 : decode cX7_letOut 102 = .ok (.iload_n 1, 1) := by decide +kernel
theorem dX7_letOut_103 : decode cX7_letOut 103 = .ok (.ifCond .ne 7, 3) := by decide +kernel
theorem dX7_letOut_106 : decode cX7_letOut 106 = .ok (.iload_n 2, 1) := by decide +kernel
theorem dX7_letOut_107 : decode cX7_letOut 107 = .ok (.goto 4, 3) := by decide +kernel
theorem dX7_letOut_110 : decode cX7_letOut 110 = .ok (.iload_n 3, 1) := by decide +kernel
theorem dX7_letOut_111 : decode cX7_letOut 111 = .ok (.ireturn, 1) := by decide +kernel
set_option maxRecDepth 20000 in
theorem ggX7_coldHands_X7_begin : GoodIn wsX7_coldHands wsX7_begin := goodIn_r _ [8, 9, 10, 44, 45, 46, 47, 48, 49, 50, 51, 52, 53, 54, 55, 56, 57, 58, 59, 60, 61, 62, 63, 64, 65, 66, 67, 68, 69, 70, 71, 72, 73, 74, 75, 76, 77, 78] (by decide +kernel) (by decide +kernel)
set_option maxRecDepth 20000 in
theorem gX7_coldHands_X7_begin : GoodIn wsX7_coldHands (wsV RX7 80 RX7 yX7_begin wsX7_begin) := goodIn_app (goodIn_of _ (by decide +kernel)) ggX7_coldHands_X7_begin
set_option maxRecDepth 20000 in
theorem ggX7_coldHands_X7_isAsSeen : GoodIn wsX7_coldHands wsX7_isAsSeen := goodIn_r _ [14, 15, 16, 1, 17, 18, 19, 7, 20, 21, 22, 3, 23, 24, 25, 26, 27, 28, 29, 30, 31, 32, 33, 34, 35, 36, 37, 2, 38, 39, 40, 41, 42, 43, 44, 45, 46, 47, 48, 49, 50, 51, 52, 53, 54, 55, 56, 57, 58, 59, 60, 61, 62, 63, 64, 65, 66, 67, 68, 69, 70, 71, 72, 73, 74, 75, 76, 77, 78] (by decide +kernel) (by decide +kernel)
set_option maxRecDepth 20000 in
theorem gX7_coldHands_X7_isAsSeen : GoodIn wsX7_coldHands (wsV RX7 176 RX7 yX7_isAsSeen wsX7_isAsSeen) := goodIn_app (goodIn_of _ (by decide +kernel)) ggX7_coldHands_X7_isAsSeen
theorem dX7_coldHands_0 : decode cX7_coldHands 0 = .ok (.aload_n 0, 1) := by decide +kernel
theorem dX7_coldHands_1 : decode cX7_coldHands 1 = .ok (.aload_n 0, 1) := by decide +kernel
theorem dX7_coldHands_2 : decode cX7_coldHands 2 = .ok (.getfield 43, 3) := by decide +kernel
theorem dX7_coldHands_5 : decode cX7_coldHands 5 = .ok (.invokevirtual 80, 3) := by decide +kernel
theorem dX7_coldHands_8 : decode cX7_coldHands 8 = .ok (.aload_n 0, 1) := by decide +kernel
theorem dX7_coldHands_9 : decode cX7_coldHands 9 = .ok (.invokevirtual 176, 3) := by decide +kernel
theorem dX7_coldHands_12 : decode cX7_coldHands 12 = .ok (.ifCond .eq 8, 3) := by decide +kernel
theorem dX7_coldHands_15 : decode cX7_coldHands 15 = .ok (.bipush 64, 2) := by decide +kernel
theorem dX7_coldHands_17 : decode cX7_coldHands 17 = .ok (.goto 4, 3) := by decide +kernel
theorem dX7_coldHands_20 : decode cX7_coldHands 20 = .ok (.iconst 0, 1) := by decide +kernel
theorem dX7_coldHands_21 : decode cX7_coldHands 21 = .ok (.istore_n 1, 1) := by decide +kernel
theorem dX7_coldHands_22 : decode cX7_coldHands 22 = .ok (.iconst 0, 1) := by decide +kernel
theorem dX7_coldHands_23 : decode cX7_coldHands 23 = .ok (.istore_n 2, 1) := by decide +kernel
theorem dX7_coldHands_24 : decode cX7_coldHands 24 = .ok (.iload_n 2, 1) := by decide +kernel
theorem dX7_coldHands_25 : decode cX7_coldHands 25 = .ok (.aload_n 0, 1) := by decide +kernel
theorem dX7_coldHands_26 : decode cX7_coldHands 26 = .ok (.getfield 71, 3) := by decide +kernel
theorem dX7_coldHands_29 : decode cX7_coldHands 29 = .ok (.if_icmp .ge 39, 3) := by decide +kernel
theorem dX7_coldHands_32 : decode cX7_coldHands 32 = .ok (.aload_n 0, 1) := by decide +kernel
theorem dX7_coldHands_33 : decode cX7_coldHands 33 = .ok (.iload_n 2, 1) := by decide +kernel
theorem dX7_coldHands_34 : decode cX7_coldHands 34 = .ok (.putfield 62, 3) := by decide +kernel
theorem dX7_coldHands_37 : decode cX7_coldHands 37 = .ok (.aload_n 0, 1) := by decide +kernel
theorem dX7_coldHands_38 : decode cX7_coldHands 38 = .ok (.aload_n 0, 1) := by decide +kernel
theorem dX7_coldHands_39 : decode cX7_coldHands 39 = .ok (.getfield 43, 3) := by decide +kernel
theorem dX7_coldHands_42 : decode cX7_coldHands 42 = .ok (.invokevirtual 80, 3) := by decide +kernel
theorem dX7_coldHands_45 : decode cX7_coldHands 45 = .ok (.iload_n 1, 1) := by decide +kernel
theorem dX7_coldHands_46 : decode cX7_coldHands 46 = .ok (.aload_n 0, 1) := by decide +kernel
theorem dX7_coldHands_47 : decode cX7_coldHands 47 = .ok (.invokevirtual 176, 3) := by decide +kernel
theorem dX7_coldHands_50 : decode cX7_coldHands 50 = .ok (.ifCond .eq 9, 3) := by decide +kernel
theorem dX7_coldHands_53 : decode cX7_coldHands 53 = .ok (.iconst 1, 1) := by decide +kernel
theorem dX7_coldHands_54 : decode cX7_coldHands 54 = .ok (.iload_n 2, 1) := by decide +kernel
theorem dX7_coldHands_55 : decode cX7_coldHands 55 = .ok (.ishl, 1) := by decide +kernel
theorem dX7_coldHands_56 : decode cX7_coldHands 56 = .ok (.goto 4, 3) := by decide +kernel
theorem dX7_coldHands_59 : decode cX7_coldHands 59 = .ok (.iconst 0, 1) := by decide +kernel
theorem dX7_coldHands_60 : decode cX7_coldHands 60 = .ok (.ior, 1) := by decide +kernel
theorem dX7_coldHands_61 : decode cX7_coldHands 61 = .ok (.istore_n 1, 1) := by decide +kernel
theorem dX7_coldHands_62 : decode cX7_coldHands 62 = .ok (.iinc 2 1, 3) := by decide +kernel
theorem dX7_coldHands_65 : decode cX7_coldHands 65 = .ok (.goto (-41), 3) := by decide +kernel
theorem dX7_coldHands_68 : decode cX7_coldHands 68 = .ok (.aload_n 0, 1) := by decide +kernel
theorem dX7_coldHands_69 : decode cX7_coldHands 69 = .ok (.iconst (-1), 1) := by decide +kernel
theorem dX7_coldHands_70 : decode cX7_coldHands 70 = .ok (.putfield 62, 3) := by decide +kernel
theorem dX7_coldHands_73 : decode cX7_coldHands 73 = .ok (.iload_n 1, 1) := by decide +kernel
theorem dX7_coldHands_74 : decode cX7_coldHands 74 = .ok (.ireturn, 1) := by decide +kernel
set_option maxRecDepth 20000 in
theorem ggX7_isSet_X7_in : GoodIn wsX7_isSet wsX7_in := goodIn_r _ [5] (by decide +kernel) (by decide +kernel)
set_option maxRecDepth 20000 in
theorem gX7_isSet_X7_in : GoodIn wsX7_isSet (va_wsS RX7 84 yX7_in wsX7_in) := goodIn_app (goodIn_of _ (by decide +kernel)) ggX7_isSet_X7_in
theorem dX7_isSet_0 : decode cX7_isSet 0 = .ok (.iload_n 1, 1) := by decide +kernel
theorem dX7_isSet_1 : decode cX7_isSet 1 = .ok (.iconst 0, 1) := by decide +kernel
theorem dX7_isSet_2 : decode cX7_isSet 2 = .ok (.iconst 1, 1) := by decide +kernel
theorem dX7_isSet_3 : decode cX7_isSet 3 = .ok (.aload_n 0, 1) := by decide +kernel
theorem dX7_isSet_4 : decode cX7_isSet 4 = .ok (.getfield 71, 3) := by decide +kernel
theorem dX7_isSet_7 : decode cX7_isSet 7 = .ok (.ishl, 1) := by decide +kernel
theorem dX7_isSet_8 : decode cX7_isSet 8 = .ok (.iconst 1, 1) := by decide +kernel
theorem dX7_isSet_9 : decode cX7_isSet 9 = .ok (.isub, 1) := by decide +kernel
theorem dX7_isSet_10 : decode cX7_isSet 10 = .ok (.invokestatic 84, 3) := by decide +kernel
theorem dX7_isSet_13 : decode cX7_isSet 13 = .ok (.ireturn, 1) := by decide +kernel
set_option maxRecDepth 20000 in
theorem ggX7_isKept_X7_darkIn : GoodIn wsX7_isKept wsX7_darkIn := goodIn_r _ [6, 7, 8, 9, 10, 5, 11, 22, 23, 24, 25, 26, 27, 28, 29, 30, 31, 32, 33, 34, 35, 36, 37, 38, 39, 40, 41, 42, 43, 44, 45, 46, 47, 48, 49, 50, 51, 52, 53, 54, 55, 56] (by decide +kernel) (by decide +kernel)
set_option maxRecDepth 20000 in
theorem gX7_isKept_X7_darkIn : GoodIn wsX7_isKept (wsV RX7 173 RX7 yX7_darkIn wsX7_darkIn) := goodIn_app (goodIn_of _ (by decide +kernel)) ggX7_isKept_X7_darkIn
set_option maxRecDepth 20000 in
theorem ggX7_isKept_X7_ring : GoodIn wsX7_isKept wsX7_ring := goodIn_r _ [15, 7, 16, 17, 18, 19, 20, 21, 22, 23, 24, 25, 26, 27, 28, 29, 30, 31, 32, 33, 34, 35, 36, 37, 38, 39, 40, 41, 42, 43, 44, 45, 46, 47, 48, 49, 50, 51, 52, 53, 54, 55, 56] (by decide +kernel) (by decide +kernel)
set_option maxRecDepth 20000 in
theorem gX7_isKept_X7_ring : GoodIn wsX7_isKept (wsV RX7 145 RX7 yX7_ring wsX7_ring) := goodIn_app (goodIn_of _ (by decide +kernel)) ggX7_isKept_X7_ring
theorem dX7_isKept_0 : decode cX7_isKept 0 = .ok (.iconst 1, 1) := by decide +kernel
theorem dX7_isKept_1 : decode cX7_isKept 1 = .ok (.istore_n 3, 1) := by decide +kernel
theorem dX7_isKept_2 : decode cX7_isKept 2 = .ok (.iconst 0, 1) := by decide +kernel
theorem dX7_isKept_3 : decode cX7_isKept 3 = .ok (.istore 4, 2) := by decide +kernel
theorem dX7_isKept_5 : decode cX7_isKept 5 = .ok (.iload 4, 2) := by decide +kernel
theorem dX7_isKept_7 : decode cX7_isKept 7 = .ok (.iload_n 2, 1) := by decide +kernel
theorem dX7_isKept_8 : decode cX7_isKept 8 = .ok (.if_icmp .gt 40, 3) := by decide +kernel
theorem dX7_isKept_11 : decode cX7_isKept 11 = .ok (.iload_n 3, 1) := by decide +kernel
theorem dX7_isKept_12 : decode cX7_isKept 12 = .ok (.ifCond .eq 36, 3) := by decide +kernel
theorem dX7_isKept_15 : decode cX7_isKept 15 = .ok (.aload_n 0, 1) := by decide +kernel
theorem dX7_isKept_16 : decode cX7_isKept 16 = .ok (.aload_n 0, 1) := by decide +kernel
theorem dX7_isKept_17 : decode cX7_isKept 17 = .ok (.getfield 43, 3) := by decide +kernel
theorem dX7_isKept_20 : decode cX7_isKept 20 = .ok (.invokevirtual 173, 3) := by decide +kernel
theorem dX7_isKept_23 : decode cX7_isKept 23 = .ok (.iload_n 1, 1) := by decide +kernel
theorem dX7_isKept_24 : decode cX7_isKept 24 = .ok (.iand, 1) := by decide +kernel
theorem dX7_isKept_25 : decode cX7_isKept 25 = .ok (.ifCond .ne 7, 3) := by decide +kernel
theorem dX7_isKept_28 : decode cX7_isKept 28 = .ok (.iconst 1, 1) := by decide +kernel
theorem dX7_isKept_29 : decode cX7_isKept 29 = .ok (.goto 4, 3) := by decide +kernel
theorem dX7_isKept_32 : decode cX7_isKept 32 = .ok (.iconst 0, 1) := by decide +kernel
theorem dX7_isKept_33 : decode cX7_isKept 33 = .ok (.istore_n 3, 1) := by decide +kernel
theorem dX7_isKept_34 : decode cX7_isKept 34 = .ok (.aload_n 0, 1) := by decide +kernel
theorem dX7_isKept_35 : decode cX7_isKept 35 = .ok (.aload_n 0, 1) := by decide +kernel
theorem dX7_isKept_36 : decode cX7_isKept 36 = .ok (.getfield 43, 3) := by decide +kernel
theorem dX7_isKept_39 : decode cX7_isKept 39 = .ok (.invokevirtual 145, 3) := by decide +kernel
theorem dX7_isKept_42 : decode cX7_isKept 42 = .ok (.iinc 4 1, 3) := by decide +kernel
theorem dX7_isKept_45 : decode cX7_isKept 45 = .ok (.goto (-40), 3) := by decide +kernel
theorem dX7_isKept_48 : decode cX7_isKept 48 = .ok (.iload_n 3, 1) := by decide +kernel
theorem dX7_isKept_49 : decode cX7_isKept 49 = .ok (.ireturn, 1) := by decide +kernel
set_option maxRecDepth 20000 in
theorem ggX7_firstWay_X7_copy : GoodIn wsX7_firstWay wsX7_copy := goodIn_r _ [7] (by decide +kernel) (by decide +kernel)
set_option maxRecDepth 20000 in
theorem gX7_firstWay_X7_copy : GoodIn wsX7_firstWay (va_wsS RX7 141 yX7_copy wsX7_copy) := goodIn_app (goodIn_of _ (by decide +kernel)) ggX7_firstWay_X7_copy
set_option maxRecDepth 20000 in
theorem ggX7_firstWay_X7_isKept : GoodIn wsX7_firstWay wsX7_isKept := goodIn_r _ [11, 3, 12, 13, 14, 6, 15, 1, 16, 17, 18, 19, 20, 21, 22, 23, 24, 25, 26, 27, 28, 29, 30, 31, 32, 33, 34, 35, 36, 37, 38, 39, 40, 41, 42, 43, 44, 45, 46, 47, 48, 49, 50, 51, 52, 53, 54, 55, 56, 57, 58, 59, 60, 61, 62, 63, 64] (by decide +kernel) (by decide +kernel)
set_option maxRecDepth 20000 in
theorem gX7_firstWay_X7_isKept : GoodIn wsX7_firstWay (wsV RX7 193 RX7 yX7_isKept wsX7_isKept) := goodIn_app (goodIn_of _ (by decide +kernel)) ggX7_firstWay_X7_isKept
theorem dX7_firstWay_0 : decode cX7_firstWay 0 = .ok (.iconst 1, 1) := by decide +kernel
theorem dX7_firstWay_1 : decode cX7_firstWay 1 = .ok (.istore_n 3, 1) := by decide +kernel
theorem dX7_firstWay_2 : decode cX7_firstWay 2 = .ok (.iconst 0, 1) := by decide +kernel
theorem dX7_firstWay_3 : decode cX7_firstWay 3 = .ok (.istore 4, 2) := by decide +kernel
theorem dX7_firstWay_5 : decode cX7_firstWay 5 = .ok (.iload 4, 2) := by decide +kernel
theorem dX7_firstWay_7 : decode cX7_firstWay 7 = .ok (.aload_n 0, 1) := by decide +kernel
theorem dX7_firstWay_8 : decode cX7_firstWay 8 = .ok (.getfield 71, 3) := by decide +kernel
theorem dX7_firstWay_11 : decode cX7_firstWay 11 = .ok (.if_icmp .ge 16, 3) := by decide +kernel
theorem dX7_firstWay_14 : decode cX7_firstWay 14 = .ok (.iload_n 3, 1) := by decide +kernel
theorem dX7_firstWay_15 : decode cX7_firstWay 15 = .ok (.aload_n 0, 1) := by decide +kernel
theorem dX7_firstWay_16 : decode cX7_firstWay 16 = .ok (.getfield 71, 3) := by decide +kernel
theorem dX7_firstWay_19 : decode cX7_firstWay 19 = .ok (.imul, 1) := by decide +kernel
theorem dX7_firstWay_20 : decode cX7_firstWay 20 = .ok (.istore_n 3, 1) := by decide +kernel
theorem dX7_firstWay_21 : decode cX7_firstWay 21 = .ok (.iinc 4 1, 3) := by decide +kernel
theorem dX7_firstWay_24 : decode cX7_firstWay 24 = .ok (.goto (-19), 3) := by decide +kernel
theorem dX7_firstWay_27 : decode cX7_firstWay 27 = .ok (.iconst 0, 1) := by decide +kernel
theorem dX7_firstWay_28 : decode cX7_firstWay 28 = .ok (.istore 4, 2) := by decide +kernel
theorem dX7_firstWay_30 : decode cX7_firstWay 30 = .ok (.iload 4, 2) := by decide +kernel
theorem dX7_firstWay_32 : decode cX7_firstWay 32 = .ok (.iload_n 3, 1) := by decide +kernel
theorem dX7_firstWay_33 : decode cX7_firstWay 33 = .ok (.if_icmp .ge 110, 3) := by decide +kernel
theorem dX7_firstWay_36 : decode cX7_firstWay 36 = .ok (.aload_n 0, 1) := by decide +kernel
theorem dX7_firstWay_37 : decode cX7_firstWay 37 = .ok (.getfield 40, 3) := by decide +kernel
theorem dX7_firstWay_40 : decode cX7_firstWay 40 = .ok (.iconst 0, 1) := by decide +kernel
theorem dX7_firstWay_41 : decode cX7_firstWay 41 = .ok (.aload_n 0, 1) := by decide +kernel
theorem dX7_firstWay_42 : decode cX7_firstWay 42 = .ok (.getfield 43, 3) := by decide +kernel
theorem dX7_firstWay_45 : decode cX7_firstWay 45 = .ok (.iconst 0, 1) := by decide +kernel
theorem dX7_firstWay_46 : decode cX7_firstWay 46 = .ok (.invokestatic 141, 3) := by decide +kernel
theorem dX7_firstWay_49 : decode cX7_firstWay 49 = .ok (.iload 4, 2) := by decide +kernel
theorem dX7_firstWay_51 : decode cX7_firstWay 51 = .ok (.istore 5, 2) := by decide +kernel
theorem dX7_firstWay_53 : decode cX7_firstWay 53 = .ok (.iconst 0, 1) := by decide +kernel
theorem dX7_firstWay_54 : decode cX7_firstWay 54 = .ok (.istore 6, 2) := by decide +kernel
theorem dX7_firstWay_56 : decode cX7_firstWay 56 = .ok (.aload_n 0, 1) := by decide +kernel
theorem dX7_firstWay_57 : decode cX7_firstWay 57 = .ok (.getfield 71, 3) := by decide +kernel
theorem dX7_firstWay_60 : decode cX7_firstWay 60 = .ok (.iconst 1, 1) := by decide +kernel
theorem dX7_firstWay_61 : decode cX7_firstWay 61 = .ok (.isub, 1) := by decide +kernel
theorem dX7_firstWay_62 : decode cX7_firstWay 62 = .ok (.istore 7, 2) := by decide +kernel
theorem dX7_firstWay_64 : decode cX7_firstWay 64 = .ok (.iload 7, 2) := by decide +kernel
theorem dX7_firstWay_66 : decode cX7_firstWay 66 = .ok (.ifCond .lt 46, 3) := by decide +kernel
theorem dX7_firstWay_69 : decode cX7_firstWay 69 = .ok (.aload_n 0, 1) := by decide +kernel
theorem dX7_firstWay_70 : decode cX7_firstWay 70 = .ok (.getfield 43, 3) := by decide +kernel
theorem dX7_firstWay_73 : decode cX7_firstWay 73 = .ok (.iload 7, 2) := by decide +kernel
theorem dX7_firstWay_75 : decode cX7_firstWay 75 = .ok (.iload 5, 2) := by decide +kernel
theorem dX7_firstWay_77 : decode cX7_firstWay 77 = .ok (.aload_n 0, 1) := by decide +kernel
theorem dX7_firstWay_78 : decode cX7_firstWay 78 = .ok (.getfield 71, 3) := by decide +kernel
theorem dX7_firstWay_81 : decode cX7_firstWay 81 = .ok (.irem, 1) := by decide +kernel
theorem dX7_firstWay_82 : decode cX7_firstWay 82 = .ok (.iastore, 1) := by decide +kernel
theorem dX7_firstWay_83 : decode cX7_firstWay 83 = .ok (.iload 6, 2) := by decide +kernel
theorem dX7_firstWay_85 : decode cX7_firstWay 85 = .ok (.iconst 1, 1) := by decide +kernel
theorem dX7_firstWay_86 : decode cX7_firstWay 86 = .ok (.iload 5, 2) := by decide +kernel
theorem dX7_firstWay_88 : decode cX7_firstWay 88 = .ok (.aload_n 0, 1) := by decide +kernel
theorem dX7_firstWay_89 : decode cX7_firstWay 89 = .ok (.getfield 71, 3) := by decide +kernel
theorem dX7_firstWay_92 : decode cX7_firstWay 92 = .ok (.irem, 1) := by decide +kernel
theorem dX7_firstWay_93 : decode cX7_firstWay 93 = .ok (.ishl, 1) := by decide +kernel
theorem dX7_firstWay_94 : decode cX7_firstWay 94 = .ok (.ior, 1) := by decide +kernel
theorem dX7_firstWay_95 : decode cX7_firstWay 95 = .ok (.istore 6, 2) := by decide +kernel
theorem dX7_firstWay_97 : decode cX7_firstWay 97 = .ok (.iload 5, 2) := by decide +kernel
theorem dX7_firstWay_99 : decode cX7_firstWay 99 = .ok (.aload_n 0, 1) := by decide +kernel
theorem dX7_firstWay_100 : decode cX7_firstWay 100 = .ok (.getfield 71, 3) := by decide +kernel
theorem dX7_firstWay_103 : decode cX7_firstWay 103 = .ok (.idiv, 1) := by decide +kernel
theorem dX7_firstWay_104 : decode cX7_firstWay 104 = .ok (.istore 5, 2) := by decide +kernel
theorem dX7_firstWay_106 : decode cX7_firstWay 106 = .ok (.iinc 7 (-1), 3) := by decide +kernel
theorem dX7_firstWay_109 : decode cX7_firstWay 109 = .ok (.goto (-45), 3) := by decide +kernel
theorem dX7_firstWay_112 : decode cX7_firstWay 112 = .ok (.iload 6, 2) := by decide +kernel
theorem dX7_firstWay_114 : decode cX7_firstWay 114 = .ok (.iconst 1, 1) := by decide +kernel
theorem dX7_firstWay_115 : decode cX7_firstWay 115 = .ok (.aload_n 0, 1) := by decide +kernel
theorem dX7_firstWay_116 : decode cX7_firstWay 116 = .ok (.getfield 71, 3) := by decide +kernel
theorem dX7_firstWay_119 : decode cX7_firstWay 119 = .ok (.ishl, 1) := by decide +kernel
theorem dX7_firstWay_120 : decode cX7_firstWay 120 = .ok (.iconst 1, 1) := by decide +kernel
theorem dX7_firstWay_121 : decode cX7_firstWay 121 = .ok (.isub, 1) := by decide +kernel
theorem dX7_firstWay_122 : decode cX7_firstWay 122 = .ok (.if_icmp .ne 15, 3) := by decide +kernel
theorem dX7_firstWay_125 : decode cX7_firstWay 125 = .ok (.aload_n 0, 1) := by decide +kernel
theorem dX7_firstWay_126 : decode cX7_firstWay 126 = .ok (.iload_n 1, 1) := by decide +kernel
theorem dX7_firstWay_127 : decode cX7_firstWay 127 = .ok (.iload_n 2, 1) := by decide +kernel
theorem dX7_firstWay_128 : decode cX7_firstWay 128 = .ok (.invokevirtual 193, 3) := by decide +kernel
theorem dX7_firstWay_131 : decode cX7_firstWay 131 = .ok (.ifCond .eq 6, 3) := by decide +kernel
theorem dX7_firstWay_134 : decode cX7_firstWay 134 = .ok (.iload 4, 2) := by decide +kernel
theorem dX7_firstWay_136 : decode cX7_firstWay 136 = .ok (.ireturn, 1) := by decide +kernel
theorem dX7_firstWay_137 : decode cX7_firstWay 137 = .ok (.iinc 4 1, 3) := by decide +kernel
theorem dX7_firstWay_140 : decode cX7_firstWay 140 = .ok (.goto (-110), 3) := by decide +kernel
theorem dX7_firstWay_143 : decode cX7_firstWay 143 = .ok (.bipush (-4), 2) := by decide +kernel
theorem dX7_firstWay_145 : decode cX7_firstWay 145 = .ok (.ireturn, 1) := by decide +kernel
set_option maxRecDepth 20000 in
theorem ggX7_keepLit_X7_isSet : GoodIn wsX7_keepLit wsX7_isSet := goodIn_r _ [7, 1, 8, 9, 6, 10, 41, 42, 43, 44, 45, 46, 47, 48, 49, 50, 51, 52, 53, 54, 55, 56, 57, 58, 59, 60, 61, 62, 63, 64, 65, 66, 67, 68, 69, 70, 71, 72, 73, 74, 75] (by decide +kernel) (by decide +kernel)
set_option maxRecDepth 20000 in
theorem gX7_keepLit_X7_isSet : GoodIn wsX7_keepLit (wsV RX7 196 RX7 yX7_isSet wsX7_isSet) := goodIn_app (goodIn_of _ (by decide +kernel)) ggX7_keepLit_X7_isSet
set_option maxRecDepth 20000 in
theorem ggX7_keepLit_X7_in : GoodIn wsX7_keepLit wsX7_in := goodIn_r _ [10] (by decide +kernel) (by decide +kernel)
set_option maxRecDepth 20000 in
theorem gX7_keepLit_X7_in : GoodIn wsX7_keepLit (va_wsS RX7 84 yX7_in wsX7_in) := goodIn_app (goodIn_of _ (by decide +kernel)) ggX7_keepLit_X7_in
set_option maxRecDepth 20000 in
theorem ggX7_keepLit_X7_firstWay : GoodIn wsX7_keepLit wsX7_firstWay := goodIn_r _ [14, 1, 2, 15, 16, 17, 6, 18, 19, 20, 21, 22, 23, 24, 25, 26, 27, 28, 29, 30, 31, 32, 33, 34, 35, 36, 37, 38, 39, 40, 41, 42, 43, 44, 45, 46, 47, 48, 49, 50, 51, 52, 53, 54, 55, 56, 57, 58, 59, 60, 61, 62, 63, 64, 65, 66, 67, 68, 69, 70, 71, 72, 73, 74, 75] (by decide +kernel) (by decide +kernel)
set_option maxRecDepth 20000 in
theorem gX7_keepLit_X7_firstWay : GoodIn wsX7_keepLit (wsV RX7 199 RX7 yX7_firstWay wsX7_firstWay) := goodIn_app (goodIn_of _ (by decide +kernel)) ggX7_keepLit_X7_firstWay
theorem dX7_keepLit_0 : decode cX7_keepLit 0 = .ok (.aload_n 0, 1) := by decide +kernel
theorem dX7_keepLit_1 : decode cX7_keepLit 1 = .ok (.iload_n 1, 1) := by decide +kernel
theorem dX7_keepLit_2 : decode cX7_keepLit 2 = .ok (.invokevirtual 196, 3) := by decide +kernel
theorem dX7_keepLit_5 : decode cX7_keepLit 5 = .ok (.ifCond .eq 27, 3) := by decide +kernel
theorem dX7_keepLit_8 : decode cX7_keepLit 8 = .ok (.iload_n 2, 1) := by decide +kernel
theorem dX7_keepLit_9 : decode cX7_keepLit 9 = .ok (.iconst 0, 1) := by decide +kernel
theorem dX7_keepLit_10 : decode cX7_keepLit 10 = .ok (.bipush 20, 2) := by decide +kernel
theorem dX7_keepLit_12 : decode cX7_keepLit 12 = .ok (.invokestatic 84, 3) := by decide +kernel
theorem dX7_keepLit_15 : decode cX7_keepLit 15 = .ok (.ifCond .eq 17, 3) := by decide +kernel
theorem dX7_keepLit_18 : decode cX7_keepLit 18 = .ok (.iload_n 3, 1) := by decide +kernel
theorem dX7_keepLit_19 : decode cX7_keepLit 19 = .ok (.iconst (-1), 1) := by decide +kernel
theorem dX7_keepLit_20 : decode cX7_keepLit 20 = .ok (.aload_n 0, 1) := by decide +kernel
theorem dX7_keepLit_21 : decode cX7_keepLit 21 = .ok (.getfield 71, 3) := by decide +kernel
theorem dX7_keepLit_24 : decode cX7_keepLit 24 = .ok (.iconst 1, 1) := by decide +kernel
theorem dX7_keepLit_25 : decode cX7_keepLit 25 = .ok (.isub, 1) := by decide +kernel
theorem dX7_keepLit_26 : decode cX7_keepLit 26 = .ok (.invokestatic 84, 3) := by decide +kernel
theorem dX7_keepLit_29 : decode cX7_keepLit 29 = .ok (.ifCond .ne 5, 3) := by decide +kernel
theorem dX7_keepLit_32 : decode cX7_keepLit 32 = .ok (.iconst (-1), 1) := by decide +kernel
theorem dX7_keepLit_33 : decode cX7_keepLit 33 = .ok (.ireturn, 1) := by decide +kernel
theorem dX7_keepLit_34 : decode cX7_keepLit 34 = .ok (.aload_n 0, 1) := by decide +kernel
theorem dX7_keepLit_35 : decode cX7_keepLit 35 = .ok (.iload_n 1, 1) := by decide +kernel
theorem dX7_keepLit_36 : decode cX7_keepLit 36 = .ok (.iload_n 2, 1) := by decide +kernel
theorem dX7_keepLit_37 : decode cX7_keepLit 37 = .ok (.invokevirtual 199, 3) := by decide +kernel
theorem dX7_keepLit_40 : decode cX7_keepLit 40 = .ok (.istore 4, 2) := by decide +kernel
theorem dX7_keepLit_42 : decode cX7_keepLit 42 = .ok (.iload 4, 2) := by decide +kernel
theorem dX7_keepLit_44 : decode cX7_keepLit 44 = .ok (.bipush (-4), 2) := by decide +kernel
theorem dX7_keepLit_46 : decode cX7_keepLit 46 = .ok (.if_icmp .ne 6, 3) := by decide +kernel
theorem dX7_keepLit_49 : decode cX7_keepLit 49 = .ok (.bipush (-4), 2) := by decide +kernel
theorem dX7_keepLit_51 : decode cX7_keepLit 51 = .ok (.ireturn, 1) := by decide +kernel
theorem dX7_keepLit_52 : decode cX7_keepLit 52 = .ok (.iconst 0, 1) := by decide +kernel
theorem dX7_keepLit_53 : decode cX7_keepLit 53 = .ok (.istore 5, 2) := by decide +kernel
theorem dX7_keepLit_55 : decode cX7_keepLit 55 = .ok (.iconst 0, 1) := by decide +kernel
theorem dX7_keepLit_56 : decode cX7_keepLit 56 = .ok (.istore 6, 2) := by decide +kernel
theorem dX7_keepLit_58 : decode cX7_keepLit 58 = .ok (.aload_n 0, 1) := by decide +kernel
theorem dX7_keepLit_59 : decode cX7_keepLit 59 = .ok (.getfield 71, 3) := by decide +kernel
theorem dX7_keepLit_62 : decode cX7_keepLit 62 = .ok (.iconst 1, 1) := by decide +kernel
theorem dX7_keepLit_63 : decode cX7_keepLit 63 = .ok (.isub, 1) := by decide +kernel
theorem dX7_keepLit_64 : decode cX7_keepLit 64 = .ok (.istore 7, 2) := by decide +kernel
theorem dX7_keepLit_66 : decode cX7_keepLit 66 = .ok (.iload 7, 2) := by decide +kernel
theorem dX7_keepLit_68 : decode cX7_keepLit 68 = .ok (.ifCond .lt 65, 3) := by decide +kernel
theorem dX7_keepLit_71 : decode cX7_keepLit 71 = .ok (.iload 5, 2) := by decide +kernel
theorem dX7_keepLit_73 : decode cX7_keepLit 73 = .ok (.iload 4, 2) := by decide +kernel
theorem dX7_keepLit_75 : decode cX7_keepLit 75 = .ok (.aload_n 0, 1) := by decide +kernel
theorem dX7_keepLit_76 : decode cX7_keepLit 76 = .ok (.getfield 71, 3) := by decide +kernel
theorem dX7_keepLit_79 : decode cX7_keepLit 79 = .ok (.irem, 1) := by decide +kernel
theorem dX7_keepLit_80 : decode cX7_keepLit 80 = .ok (.aload_n 0, 1) := by decide +kernel
theorem dX7_keepLit_81 : decode cX7_keepLit 81 = .ok (.getfield 40, 3) := by decide +kernel
theorem dX7_keepLit_84 : decode cX7_keepLit 84 = .ok (.iload 7, 2) := by decide +kernel
theorem dX7_keepLit_86 : decode cX7_keepLit 86 = .ok (.iaload, 1) := by decide +kernel
theorem dX7_keepLit_87 : decode cX7_keepLit 87 = .ok (.if_icmp .ne 7, 3) := by decide +kernel
theorem dX7_keepLit_90 : decode cX7_keepLit 90 = .ok (.iconst 0, 1) := by decide +kernel
theorem dX7_keepLit_91 : decode cX7_keepLit 91 = .ok (.goto 4, 3) := by decide +kernel
theorem dX7_keepLit_94 : decode cX7_keepLit 94 = .ok (.iconst 1, 1) := by decide +kernel
theorem dX7_keepLit_95 : decode cX7_keepLit 95 = .ok (.iadd, 1) := by decide +kernel
theorem dX7_keepLit_96 : decode cX7_keepLit 96 = .ok (.istore 5, 2) := by decide +kernel
theorem dX7_keepLit_98 : decode cX7_keepLit 98 = .ok (.iload 7, 2) := by decide +kernel
theorem dX7_keepLit_100 : decode cX7_keepLit 100 = .ok (.iload_n 3, 1) := by decide +kernel
theorem dX7_keepLit_101 : decode cX7_keepLit 101 = .ok (.if_icmp .ne 13, 3) := by decide +kernel
theorem dX7_keepLit_104 : decode cX7_keepLit 104 = .ok (.iload 4, 2) := by decide +kernel
theorem dX7_keepLit_106 : decode cX7_keepLit 106 = .ok (.aload_n 0, 1) := by decide +kernel
theorem dX7_keepLit_107 : decode cX7_keepLit 107 = .ok (.getfield 71, 3) := by decide +kernel
theorem dX7_keepLit_110 : decode cX7_keepLit 110 = .ok (.irem, 1) := by decide +kernel
theorem dX7_keepLit_111 : decode cX7_keepLit 111 = .ok (.goto 5, 3) := by decide +kernel
theorem dX7_keepLit_114 : decode cX7_keepLit 114 = .ok (.iload 6, 2) := by decide +kernel
theorem dX7_keepLit_116 : decode cX7_keepLit 116 = .ok (.istore 6, 2) := by decide +kernel
theorem dX7_keepLit_118 : decode cX7_keepLit 118 = .ok (.iload 4, 2) := by decide +kernel
theorem dX7_keepLit_120 : decode cX7_keepLit 120 = .ok (.aload_n 0, 1) := by decide +kernel
theorem dX7_keepLit_121 : decode cX7_keepLit 121 = .ok (.getfield 71, 3) := by decide +kernel
theorem dX7_keepLit_124 : decode cX7_keepLit 124 = .ok (.idiv, 1) := by decide +kernel
theorem dX7_keepLit_125 : decode cX7_keepLit 125 = .ok (.istore 4, 2) := by decide +kernel
theorem dX7_keepLit_127 : decode cX7_keepLit 127 = .ok (.iinc 7 (-1), 3) := by decide +kernel
theorem dX7_keepLit_130 : decode cX7_keepLit 130 = .ok (.goto (-64), 3) := by decide +kernel
theorem dX7_keepLit_133 : decode cX7_keepLit 133 = .ok (.iload_n 3, 1) := by decide +kernel
theorem dX7_keepLit_134 : decode cX7_keepLit 134 = .ok (.ifCond .ge 8, 3) := by decide +kernel
theorem dX7_keepLit_137 : decode cX7_keepLit 137 = .ok (.iload 5, 2) := by decide +kernel
theorem dX7_keepLit_139 : decode cX7_keepLit 139 = .ok (.goto 5, 3) := by decide +kernel
theorem dX7_keepLit_142 : decode cX7_keepLit 142 = .ok (.iload 6, 2) := by decide +kernel
theorem dX7_keepLit_144 : decode cX7_keepLit 144 = .ok (.ireturn, 1) := by decide +kernel
set_option maxRecDepth 20000 in
theorem ggX7_oil_X7_isSet : GoodIn wsX7_oil wsX7_isSet := goodIn_r _ [9, 3, 10, 11, 8, 12, 33, 34, 35, 36, 37, 38, 39, 40, 41, 42, 43, 44, 45, 46, 47, 48, 49, 50, 51, 52, 53, 54, 55, 56, 57, 58, 59, 60, 61, 62, 63, 64, 65, 66, 67] (by decide +kernel) (by decide +kernel)
set_option maxRecDepth 20000 in
theorem gX7_oil_X7_isSet : GoodIn wsX7_oil (wsV RX7 196 RX7 yX7_isSet wsX7_isSet) := goodIn_app (goodIn_of _ (by decide +kernel)) ggX7_oil_X7_isSet
set_option maxRecDepth 20000 in
theorem ggX7_oil_X7_in : GoodIn wsX7_oil wsX7_in := goodIn_r _ [12] (by decide +kernel) (by decide +kernel)
set_option maxRecDepth 20000 in
theorem gX7_oil_X7_in : GoodIn wsX7_oil (va_wsS RX7 84 yX7_in wsX7_in) := goodIn_app (goodIn_of _ (by decide +kernel)) ggX7_oil_X7_in
set_option maxRecDepth 20000 in
theorem ggX7_oil_X7_copy : GoodIn wsX7_oil wsX7_copy := goodIn_r _ [15] (by decide +kernel) (by decide +kernel)
set_option maxRecDepth 20000 in
theorem gX7_oil_X7_copy : GoodIn wsX7_oil (va_wsS RX7 141 yX7_copy wsX7_copy) := goodIn_app (goodIn_of _ (by decide +kernel)) ggX7_oil_X7_copy
set_option maxRecDepth 20000 in
theorem ggX7_oil_X7_has : GoodIn wsX7_oil wsX7_has := goodIn_r _ [18] (by decide +kernel) (by decide +kernel)
set_option maxRecDepth 20000 in
theorem gX7_oil_X7_has : GoodIn wsX7_oil (va_wsS RX7 182 yX7_has wsX7_has) := goodIn_app (goodIn_of _ (by decide +kernel)) ggX7_oil_X7_has
set_option maxRecDepth 20000 in
theorem ggX7_oil_X7_isLit : GoodIn wsX7_oil wsX7_isLit := goodIn_r _ [22] (by decide +kernel) (by decide +kernel)
set_option maxRecDepth 20000 in
theorem gX7_oil_X7_isLit : GoodIn wsX7_oil (wsV RX7 148 RX7 yX7_isLit wsX7_isLit) := goodIn_app (goodIn_of _ (by decide +kernel)) ggX7_oil_X7_isLit
set_option maxRecDepth 20000 in
theorem ggX7_oil_X7_ring : GoodIn wsX7_oil wsX7_ring := goodIn_r _ [26, 3, 27, 28, 29, 30, 31, 32, 33, 34, 35, 36, 37, 38, 39, 40, 41, 42, 43, 44, 45, 46, 47, 48, 49, 50, 51, 52, 53, 54, 55, 56, 57, 58, 59, 60, 61, 62, 63, 64, 65, 66, 67] (by decide +kernel) (by decide +kernel)
set_option maxRecDepth 20000 in
theorem gX7_oil_X7_ring : GoodIn wsX7_oil (wsV RX7 145 RX7 yX7_ring wsX7_ring) := goodIn_app (goodIn_of _ (by decide +kernel)) ggX7_oil_X7_ring
theorem dX7_oil_0 : decode cX7_oil 0 = .ok (.aload_n 0, 1) := by decide +kernel
theorem dX7_oil_1 : decode cX7_oil 1 = .ok (.iload_n 1, 1) := by decide +kernel
theorem dX7_oil_2 : decode cX7_oil 2 = .ok (.invokevirtual 196, 3) := by decide +kernel
theorem dX7_oil_5 : decode cX7_oil 5 = .ok (.ifCond .eq 13, 3) := by decide +kernel
theorem dX7_oil_8 : decode cX7_oil 8 = .ok (.iload_n 2, 1) := by decide +kernel
theorem dX7_oil_9 : decode cX7_oil 9 = .ok (.iconst 0, 1) := by decide +kernel
theorem dX7_oil_10 : decode cX7_oil 10 = .ok (.bipush 20, 2) := by decide +kernel
theorem dX7_oil_12 : decode cX7_oil 12 = .ok (.invokestatic 84, 3) := by decide +kernel
theorem dX7_oil_15 : decode cX7_oil 15 = .ok (.ifCond .ne 5, 3) := by decide +kernel
theorem dX7_oil_18 : decode cX7_oil 18 = .ok (.iconst (-1), 1) := by decide +kernel
theorem dX7_oil_19 : decode cX7_oil 19 = .ok (.ireturn, 1) := by decide +kernel
theorem dX7_oil_20 : decode cX7_oil 20 = .ok (.aload_n 0, 1) := by decide +kernel
theorem dX7_oil_21 : decode cX7_oil 21 = .ok (.getfield 40, 3) := by decide +kernel
theorem dX7_oil_24 : decode cX7_oil 24 = .ok (.iconst 0, 1) := by decide +kernel
theorem dX7_oil_25 : decode cX7_oil 25 = .ok (.aload_n 0, 1) := by decide +kernel
theorem dX7_oil_26 : decode cX7_oil 26 = .ok (.getfield 43, 3) := by decide +kernel
theorem dX7_oil_29 : decode cX7_oil 29 = .ok (.iconst 0, 1) := by decide +kernel
theorem dX7_oil_30 : decode cX7_oil 30 = .ok (.invokestatic 141, 3) := by decide +kernel
theorem dX7_oil_33 : decode cX7_oil 33 = .ok (.iconst 0, 1) := by decide +kernel
theorem dX7_oil_34 : decode cX7_oil 34 = .ok (.istore_n 3, 1) := by decide +kernel
theorem dX7_oil_35 : decode cX7_oil 35 = .ok (.iload_n 3, 1) := by decide +kernel
theorem dX7_oil_36 : decode cX7_oil 36 = .ok (.aload_n 0, 1) := by decide +kernel
theorem dX7_oil_37 : decode cX7_oil 37 = .ok (.getfield 71, 3) := by decide +kernel
theorem dX7_oil_40 : decode cX7_oil 40 = .ok (.if_icmp .ge 45, 3) := by decide +kernel
theorem dX7_oil_43 : decode cX7_oil 43 = .ok (.aload_n 0, 1) := by decide +kernel
theorem dX7_oil_44 : decode cX7_oil 44 = .ok (.getfield 43, 3) := by decide +kernel
theorem dX7_oil_47 : decode cX7_oil 47 = .ok (.bipush 6, 2) := by decide +kernel
theorem dX7_oil_49 : decode cX7_oil 49 = .ok (.iload_n 3, 1) := by decide +kernel
theorem dX7_oil_50 : decode cX7_oil 50 = .ok (.iadd, 1) := by decide +kernel
theorem dX7_oil_51 : decode cX7_oil 51 = .ok (.aload_n 0, 1) := by decide +kernel
theorem dX7_oil_52 : decode cX7_oil 52 = .ok (.getfield 43, 3) := by decide +kernel
theorem dX7_oil_55 : decode cX7_oil 55 = .ok (.bipush 12, 2) := by decide +kernel
theorem dX7_oil_57 : decode cX7_oil 57 = .ok (.iload_n 3, 1) := by decide +kernel
theorem dX7_oil_58 : decode cX7_oil 58 = .ok (.iadd, 1) := by decide +kernel
theorem dX7_oil_59 : decode cX7_oil 59 = .ok (.iaload, 1) := by decide +kernel
theorem dX7_oil_60 : decode cX7_oil 60 = .ok (.iconst 1, 1) := by decide +kernel
theorem dX7_oil_61 : decode cX7_oil 61 = .ok (.if_icmp .ne 9, 3) := by decide +kernel
theorem dX7_oil_64 : decode cX7_oil 64 = .ok (.sipush 1000, 3) := by decide +kernel
theorem dX7_oil_67 : decode cX7_oil 67 = .ok (.goto 4, 3) := by decide +kernel
theorem dX7_oil_70 : decode cX7_oil 70 = .ok (.iconst 0, 1) := by decide +kernel
theorem dX7_oil_71 : decode cX7_oil 71 = .ok (.iastore, 1) := by decide +kernel
theorem dX7_oil_72 : decode cX7_oil 72 = .ok (.aload_n 0, 1) := by decide +kernel
theorem dX7_oil_73 : decode cX7_oil 73 = .ok (.getfield 68, 3) := by decide +kernel
theorem dX7_oil_76 : decode cX7_oil 76 = .ok (.iload_n 3, 1) := by decide +kernel
theorem dX7_oil_77 : decode cX7_oil 77 = .ok (.iconst 0, 1) := by decide +kernel
theorem dX7_oil_78 : decode cX7_oil 78 = .ok (.iastore, 1) := by decide +kernel
theorem dX7_oil_79 : decode cX7_oil 79 = .ok (.iinc 3 1, 3) := by decide +kernel
theorem dX7_oil_82 : decode cX7_oil 82 = .ok (.goto (-47), 3) := by decide +kernel
theorem dX7_oil_85 : decode cX7_oil 85 = .ok (.iconst 0, 1) := by decide +kernel
theorem dX7_oil_86 : decode cX7_oil 86 = .ok (.istore_n 3, 1) := by decide +kernel
theorem dX7_oil_87 : decode cX7_oil 87 = .ok (.iload_n 3, 1) := by decide +kernel
theorem dX7_oil_88 : decode cX7_oil 88 = .ok (.iload_n 2, 1) := by decide +kernel
theorem dX7_oil_89 : decode cX7_oil 89 = .ok (.if_icmp .gt 75, 3) := by decide +kernel
theorem dX7_oil_92 : decode cX7_oil 92 = .ok (.iconst 0, 1) := by decide +kernel
theorem dX7_oil_93 : decode cX7_oil 93 = .ok (.istore 4, 2) := by decide +kernel
theorem dX7_oil_95 : decode cX7_oil 95 = .ok (.iload 4, 2) := by decide +kernel
theorem dX7_oil_97 : decode cX7_oil 97 = .ok (.aload_n 0, 1) := by decide +kernel
theorem dX7_oil_98 : decode cX7_oil 98 = .ok (.getfield 71, 3) := by decide +kernel
theorem dX7_oil_101 : decode cX7_oil 101 = .ok (.if_icmp .ge 49, 3) := by decide +kernel
theorem dX7_oil_104 : decode cX7_oil 104 = .ok (.iload_n 1, 1) := by decide +kernel
theorem dX7_oil_105 : decode cX7_oil 105 = .ok (.iload 4, 2) := by decide +kernel
theorem dX7_oil_107 : decode cX7_oil 107 = .ok (.invokestatic 182, 3) := by decide +kernel
theorem dX7_oil_110 : decode cX7_oil 110 = .ok (.ifCond .eq 34, 3) := by decide +kernel
theorem dX7_oil_113 : decode cX7_oil 113 = .ok (.aload_n 0, 1) := by decide +kernel
theorem dX7_oil_114 : decode cX7_oil 114 = .ok (.aload_n 0, 1) := by decide +kernel
theorem dX7_oil_115 : decode cX7_oil 115 = .ok (.getfield 43, 3) := by decide +kernel
theorem dX7_oil_118 : decode cX7_oil 118 = .ok (.iload 4, 2) := by decide +kernel
theorem dX7_oil_120 : decode cX7_oil 120 = .ok (.invokevirtual 148, 3) := by decide +kernel
theorem dX7_oil_123 : decode cX7_oil 123 = .ok (.ifCond .ne 6, 3) := by decide +kernel
theorem dX7_oil_126 : decode cX7_oil 126 = .ok (.bipush (-4), 2) := by decide +kernel
theorem dX7_oil_128 : decode cX7_oil 128 = .ok (.ireturn, 1) := by decide +kernel
theorem dX7_oil_129 : decode cX7_oil 129 = .ok (.aload_n 0, 1) := by decide +kernel
theorem dX7_oil_130 : decode cX7_oil 130 = .ok (.getfield 68, 3) := by decide +kernel
theorem dX7_oil_133 : decode cX7_oil 133 = .ok (.aload_n 0, 1) := by decide +kernel
theorem dX7_oil_134 : decode cX7_oil 134 = .ok (.getfield 43, 3) := by decide +kernel
theorem dX7_oil_137 : decode cX7_oil 137 = .ok (.iload 4, 2) := by decide +kernel
theorem dX7_oil_139 : decode cX7_oil 139 = .ok (.iaload, 1) := by decide +kernel
theorem dX7_oil_140 : decode cX7_oil 140 = .ok (.iload_n 3, 1) := by decide +kernel
theorem dX7_oil_141 : decode cX7_oil 141 = .ok (.iconst 1, 1) := by decide +kernel
theorem dX7_oil_142 : decode cX7_oil 142 = .ok (.iadd, 1) := by decide +kernel
theorem dX7_oil_143 : decode cX7_oil 143 = .ok (.iastore, 1) := by decide +kernel
theorem dX7_oil_144 : decode cX7_oil 144 = .ok (.iinc 4 1, 3) := by decide +kernel
theorem dX7_oil_147 : decode cX7_oil 147 = .ok (.goto (-52), 3) := by decide +kernel
theorem dX7_oil_150 : decode cX7_oil 150 = .ok (.aload_n 0, 1) := by decide +kernel
theorem dX7_oil_151 : decode cX7_oil 151 = .ok (.aload_n 0, 1) := by decide +kernel
theorem dX7_oil_152 : decode cX7_oil 152 = .ok (.getfield 43, 3) := by decide +kernel
theorem dX7_oil_155 : decode cX7_oil 155 = .ok (.invokevirtual 145, 3) := by decide +kernel
theorem dX7_oil_158 : decode cX7_oil 158 = .ok (.iinc 3 1, 3) := by decide +kernel
theorem dX7_oil_161 : decode cX7_oil 161 = .ok (.goto (-74), 3) := by decide +kernel
theorem dX7_oil_164 : decode cX7_oil 164 = .ok (.iconst 0, 1) := by decide +kernel
theorem dX7_oil_165 : decode cX7_oil 165 = .ok (.istore_n 3, 1) := by decide +kernel
theorem dX7_oil_166 : decode cX7_oil 166 = .ok (.iconst 0, 1) := by decide +kernel
theorem dX7_oil_167 : decode cX7_oil 167 = .ok (.istore 4, 2) := by decide +kernel
theorem dX7_oil_169 : decode cX7_oil 169 = .ok (.iload 4, 2) := by decide +kernel
theorem dX7_oil_171 : decode cX7_oil 171 = .ok (.aload_n 0, 1) := by decide +kernel
theorem dX7_oil_172 : decode cX7_oil 172 = .ok (.getfield 71, 3) := by decide +kernel
theorem dX7_oil_175 : decode cX7_oil 175 = .ok (.if_icmp .ge 54, 3) := by decide +kernel
theorem dX7_oil_178 : decode cX7_oil 178 = .ok (.iload_n 3, 1) := by decide +kernel
theorem dX7_oil_179 : decode cX7_oil 179 = .ok (.aload_n 0, 1) := by decide +kernel
theorem dX7_oil_180 : decode cX7_oil 180 = .ok (.getfield 68, 3) := by decide +kernel
theorem dX7_oil_183 : decode cX7_oil 183 = .ok (.iload 4, 2) := by decide +kernel
theorem dX7_oil_185 : decode cX7_oil 185 = .ok (.iaload, 1) := by decide +kernel
theorem dX7_oil_186 : decode cX7_oil 186 = .ok (.aload_n 0, 1) := by decide +kernel
theorem dX7_oil_187 : decode cX7_oil 187 = .ok (.getfield 40, 3) := by decide +kernel
theorem dX7_oil_190 : decode cX7_oil 190 = .ok (.bipush 6, 2) := by decide +kernel
theorem dX7_oil_192 : decode cX7_oil 192 = .ok (.iload 4, 2) := by decide +kernel
theorem dX7_oil_194 : decode cX7_oil 194 = .ok (.iadd, 1) := by decide +kernel
theorem dX7_oil_195 : decode cX7_oil 195 = .ok (.iaload, 1) := by decide +kernel
theorem dX7_oil_196 : decode cX7_oil 196 = .ok (.if_icmp .le 24, 3) := by decide +kernel
theorem dX7_oil_199 : decode cX7_oil 199 = .ok (.aload_n 0, 1) := by decide +kernel
theorem dX7_oil_200 : decode cX7_oil 200 = .ok (.getfield 68, 3) := by decide +kernel
theorem dX7_oil_203 : decode cX7_oil 203 = .ok (.iload 4, 2) := by decide +kernel
theorem dX7_oil_205 : decode cX7_oil 205 = .ok (.iaload, 1) := by decide +kernel
theorem dX7_oil_206 : decode cX7_oil 206 = .ok (.aload_n 0, 1) := by decide +kernel
theorem dX7_oil_207 : decode cX7_oil 207 = .ok (.getfield 40, 3) := by decide +kernel
theorem dX7_oil_210 : decode cX7_oil 210 = .ok (.bipush 6, 2) := by decide +kernel
theorem dX7_oil_212 : decode cX7_oil 212 = .ok (.iload 4, 2) := by decide +kernel
theorem dX7_oil_214 : decode cX7_oil 214 = .ok (.iadd, 1) := by decide +kernel
theorem dX7_oil_215 : decode cX7_oil 215 = .ok (.iaload, 1) := by decide +kernel
theorem dX7_oil_216 : decode cX7_oil 216 = .ok (.isub, 1) := by decide +kernel
theorem dX7_oil_217 : decode cX7_oil 217 = .ok (.goto 4, 3) := by decide +kernel
theorem dX7_oil_220 : decode cX7_oil 220 = .ok (.iconst 0, 1) := by decide +kernel
theorem dX7_oil_221 : decode cX7_oil 221 = .ok (.iadd, 1) := by decide +kernel
theorem dX7_oil_222 : decode cX7_oil 222 = .ok (.istore_n 3, 1) := by decide +kernel
theorem dX7_oil_223 : decode cX7_oil 223 = .ok (.iinc 4 1, 3) := by decide +kernel
theorem dX7_oil_226 : decode cX7_oil 226 = .ok (.goto (-57), 3) := by decide +kernel
theorem dX7_oil_229 : decode cX7_oil 229 = .ok (.iload_n 3, 1) := by decide +kernel
theorem dX7_oil_230 : decode cX7_oil 230 = .ok (.ireturn, 1) := by decide +kernel
set_option maxRecDepth 20000 in
theorem ggX7_night_X7_in : GoodIn wsX7_night wsX7_in := goodIn_r _ [12] (by decide +kernel) (by decide +kernel)
set_option maxRecDepth 20000 in
theorem gX7_night_X7_in : GoodIn wsX7_night (va_wsS RX7 84 yX7_in wsX7_in) := goodIn_app (goodIn_of _ (by decide +kernel)) ggX7_night_X7_in
set_option maxRecDepth 20000 in
theorem ggX7_night_X7_copy : GoodIn wsX7_night wsX7_copy := goodIn_r _ [15] (by decide +kernel) (by decide +kernel)
set_option maxRecDepth 20000 in
theorem gX7_night_X7_copy : GoodIn wsX7_night (va_wsS RX7 141 yX7_copy wsX7_copy) := goodIn_app (goodIn_of _ (by decide +kernel)) ggX7_night_X7_copy
set_option maxRecDepth 20000 in
theorem ggX7_night_X7_ring : GoodIn wsX7_night wsX7_ring := goodIn_r _ [19, 7, 20, 21, 22, 23, 6, 8, 32, 33, 34, 35, 36, 37, 38, 39, 40, 41, 42, 43, 44, 45, 46, 47, 48, 49, 50, 51, 52, 53, 54, 55, 56, 57, 58, 59, 60, 61, 62, 63, 64, 65, 66] (by decide +kernel) (by decide +kernel)
set_option maxRecDepth 20000 in
theorem gX7_night_X7_ring : GoodIn wsX7_night (wsV RX7 145 RX7 yX7_ring wsX7_ring) := goodIn_app (goodIn_of _ (by decide +kernel)) ggX7_night_X7_ring
set_option maxRecDepth 20000 in
theorem ggX7_night_X7_litOf : GoodIn wsX7_night wsX7_litOf := goodIn_r _ [27, 7, 32, 33, 34, 35, 36, 37, 38, 39, 40, 41, 42, 43, 44, 45, 46, 47, 48, 49, 50, 51, 52, 53, 54, 55, 56, 57, 58, 59, 60, 61, 62, 63, 64, 65, 66] (by decide +kernel) (by decide +kernel)
set_option maxRecDepth 20000 in
theorem gX7_night_X7_litOf : GoodIn wsX7_night (wsV RX7 165 RX7 yX7_litOf wsX7_litOf) := goodIn_app (goodIn_of _ (by decide +kernel)) ggX7_night_X7_litOf
set_option maxRecDepth 20000 in
theorem ggX7_night_X7_oilOf : GoodIn wsX7_night wsX7_oilOf := goodIn_r _ [31, 7, 32, 33, 34, 35, 36, 37, 38, 39, 40, 41, 42, 43, 44, 45, 46, 47, 48, 49, 50, 51, 52, 53, 54, 55, 56, 57, 58, 59, 60, 61, 62, 63, 64, 65, 66] (by decide +kernel) (by decide +kernel)
set_option maxRecDepth 20000 in
theorem gX7_night_X7_oilOf : GoodIn wsX7_night (wsV RX7 209 RX7 yX7_oilOf wsX7_oilOf) := goodIn_app (goodIn_of _ (by decide +kernel)) ggX7_night_X7_oilOf
theorem dX7_night_0 : decode cX7_night 0 = .ok (.iload_n 1, 1) := by decide +kernel
theorem dX7_night_1 : decode cX7_night 1 = .ok (.iconst 0, 1) := by decide +kernel
theorem dX7_night_2 : decode cX7_night 2 = .ok (.sipush 9999, 3) := by decide +kernel
theorem dX7_night_5 : decode cX7_night 5 = .ok (.invokestatic 84, 3) := by decide +kernel
theorem dX7_night_8 : decode cX7_night 8 = .ok (.ifCond .eq 22, 3) := by decide +kernel
theorem dX7_night_11 : decode cX7_night 11 = .ok (.iload_n 2, 1) := by decide +kernel
theorem dX7_night_12 : decode cX7_night 12 = .ok (.iconst 1, 1) := by decide +kernel
theorem dX7_night_13 : decode cX7_night 13 = .ok (.bipush 60, 2) := by decide +kernel
theorem dX7_night_15 : decode cX7_night 15 = .ok (.invokestatic 84, 3) := by decide +kernel
theorem dX7_night_18 : decode cX7_night 18 = .ok (.ifCond .eq 12, 3) := by decide +kernel
theorem dX7_night_21 : decode cX7_night 21 = .ok (.iload_n 3, 1) := by decide +kernel
theorem dX7_night_22 : decode cX7_night 22 = .ok (.iconst 0, 1) := by decide +kernel
theorem dX7_night_23 : decode cX7_night 23 = .ok (.iconst 1, 1) := by decide +kernel
theorem dX7_night_24 : decode cX7_night 24 = .ok (.invokestatic 84, 3) := by decide +kernel
theorem dX7_night_27 : decode cX7_night 27 = .ok (.ifCond .ne 5, 3) := by decide +kernel
theorem dX7_night_30 : decode cX7_night 30 = .ok (.iconst (-1), 1) := by decide +kernel
theorem dX7_night_31 : decode cX7_night 31 = .ok (.ireturn, 1) := by decide +kernel
theorem dX7_night_32 : decode cX7_night 32 = .ok (.aload_n 0, 1) := by decide +kernel
theorem dX7_night_33 : decode cX7_night 33 = .ok (.getfield 40, 3) := by decide +kernel
theorem dX7_night_36 : decode cX7_night 36 = .ok (.iconst 0, 1) := by decide +kernel
theorem dX7_night_37 : decode cX7_night 37 = .ok (.aload_n 0, 1) := by decide +kernel
theorem dX7_night_38 : decode cX7_night 38 = .ok (.getfield 43, 3) := by decide +kernel
theorem dX7_night_41 : decode cX7_night 41 = .ok (.iconst 0, 1) := by decide +kernel
theorem dX7_night_42 : decode cX7_night 42 = .ok (.invokestatic 141, 3) := by decide +kernel
theorem dX7_night_45 : decode cX7_night 45 = .ok (.iconst 1, 1) := by decide +kernel
theorem dX7_night_46 : decode cX7_night 46 = .ok (.istore 4, 2) := by decide +kernel
theorem dX7_night_48 : decode cX7_night 48 = .ok (.iload 4, 2) := by decide +kernel
theorem dX7_night_50 : decode cX7_night 50 = .ok (.iload_n 2, 1) := by decide +kernel
theorem dX7_night_51 : decode cX7_night 51 = .ok (.if_icmp .gt 85, 3) := by decide +kernel
theorem dX7_night_54 : decode cX7_night 54 = .ok (.ldc2_w 203, 3) := by decide +kernel
theorem dX7_night_57 : decode cX7_night 57 = .ok (.iload_n 1, 1) := by decide +kernel
theorem dX7_night_58 : decode cX7_night 58 = .ok (.i2l, 1) := by decide +kernel
theorem dX7_night_59 : decode cX7_night 59 = .ok (.lmul, 1) := by decide +kernel
theorem dX7_night_60 : decode cX7_night 60 = .ok (.ldc2_w 205, 3) := by decide +kernel
theorem dX7_night_63 : decode cX7_night 63 = .ok (.iload 4, 2) := by decide +kernel
theorem dX7_night_65 : decode cX7_night 65 = .ok (.i2l, 1) := by decide +kernel
theorem dX7_night_66 : decode cX7_night 66 = .ok (.lmul, 1) := by decide +kernel
theorem dX7_night_67 : decode cX7_night 67 = .ok (.ladd, 1) := by decide +kernel
theorem dX7_night_68 : decode cX7_night 68 = .ok (.lconst 1, 1) := by decide +kernel
theorem dX7_night_69 : decode cX7_night 69 = .ok (.ladd, 1) := by decide +kernel
theorem dX7_night_70 : decode cX7_night 70 = .ok (.lstore 5, 2) := by decide +kernel
theorem dX7_night_72 : decode cX7_night 72 = .ok (.lload 5, 2) := by decide +kernel
theorem dX7_night_74 : decode cX7_night 74 = .ok (.lload 5, 2) := by decide +kernel
theorem dX7_night_76 : decode cX7_night 76 = .ok (.lmul, 1) := by decide +kernel
theorem dX7_night_77 : decode cX7_night 77 = .ok (.ldc2_w 207, 3) := by decide +kernel
theorem dX7_night_80 : decode cX7_night 80 = .ok (.lrem, 1) := by decide +kernel
theorem dX7_night_81 : decode cX7_night 81 = .ok (.l2i, 1) := by decide +kernel
theorem dX7_night_82 : decode cX7_night 82 = .ok (.istore 7, 2) := by decide +kernel
theorem dX7_night_84 : decode cX7_night 84 = .ok (.aload_n 0, 1) := by decide +kernel
theorem dX7_night_85 : decode cX7_night 85 = .ok (.iload 7, 2) := by decide +kernel
theorem dX7_night_87 : decode cX7_night 87 = .ok (.bipush 8, 2) := by decide +kernel
theorem dX7_night_89 : decode cX7_night 89 = .ok (.idiv, 1) := by decide +kernel
theorem dX7_night_90 : decode cX7_night 90 = .ok (.iconst 4, 1) := by decide +kernel
theorem dX7_night_91 : decode cX7_night 91 = .ok (.irem, 1) := by decide +kernel
theorem dX7_night_92 : decode cX7_night 92 = .ok (.ifCond .ne 15, 3) := by decide +kernel
theorem dX7_night_95 : decode cX7_night 95 = .ok (.aload_n 0, 1) := by decide +kernel
theorem dX7_night_96 : decode cX7_night 96 = .ok (.getfield 43, 3) := by decide +kernel
theorem dX7_night_99 : decode cX7_night 99 = .ok (.bipush 18, 2) := by decide +kernel
theorem dX7_night_101 : decode cX7_night 101 = .ok (.iaload, 1) := by decide +kernel
theorem dX7_night_102 : decode cX7_night 102 = .ok (.iconst 1, 1) := by decide +kernel
theorem dX7_night_103 : decode cX7_night 103 = .ok (.iadd, 1) := by decide +kernel
theorem dX7_night_104 : decode cX7_night 104 = .ok (.goto 4, 3) := by decide +kernel
theorem dX7_night_107 : decode cX7_night 107 = .ok (.iconst (-1), 1) := by decide +kernel
theorem dX7_night_108 : decode cX7_night 108 = .ok (.putfield 55, 3) := by decide +kernel
theorem dX7_night_111 : decode cX7_night 111 = .ok (.aload_n 0, 1) := by decide +kernel
theorem dX7_night_112 : decode cX7_night 112 = .ok (.iload 7, 2) := by decide +kernel
theorem dX7_night_114 : decode cX7_night 114 = .ok (.aload_n 0, 1) := by decide +kernel
theorem dX7_night_115 : decode cX7_night 115 = .ok (.getfield 71, 3) := by decide +kernel
theorem dX7_night_118 : decode cX7_night 118 = .ok (.irem, 1) := by decide +kernel
theorem dX7_night_119 : decode cX7_night 119 = .ok (.putfield 59, 3) := by decide +kernel
theorem dX7_night_122 : decode cX7_night 122 = .ok (.aload_n 0, 1) := by decide +kernel
theorem dX7_night_123 : decode cX7_night 123 = .ok (.aload_n 0, 1) := by decide +kernel
theorem dX7_night_124 : decode cX7_night 124 = .ok (.getfield 43, 3) := by decide +kernel
theorem dX7_night_127 : decode cX7_night 127 = .ok (.invokevirtual 145, 3) := by decide +kernel
theorem dX7_night_130 : decode cX7_night 130 = .ok (.iinc 4 1, 3) := by decide +kernel
theorem dX7_night_133 : decode cX7_night 133 = .ok (.goto (-85), 3) := by decide +kernel
theorem dX7_night_136 : decode cX7_night 136 = .ok (.aload_n 0, 1) := by decide +kernel
theorem dX7_night_137 : decode cX7_night 137 = .ok (.iconst (-1), 1) := by decide +kernel
theorem dX7_night_138 : decode cX7_night 138 = .ok (.putfield 55, 3) := by decide +kernel
theorem dX7_night_141 : decode cX7_night 141 = .ok (.iload_n 3, 1) := by decide +kernel
theorem dX7_night_142 : decode cX7_night 142 = .ok (.ifCond .ne 14, 3) := by decide +kernel
theorem dX7_night_145 : decode cX7_night 145 = .ok (.aload_n 0, 1) := by decide +kernel
theorem dX7_night_146 : decode cX7_night 146 = .ok (.aload_n 0, 1) := by decide +kernel
theorem dX7_night_147 : decode cX7_night 147 = .ok (.getfield 43, 3) := by decide +kernel
theorem dX7_night_150 : decode cX7_night 150 = .ok (.invokevirtual 165, 3) := by decide +kernel
theorem dX7_night_153 : decode cX7_night 153 = .ok (.goto 11, 3) := by decide +kernel
theorem dX7_night_156 : decode cX7_night 156 = .ok (.aload_n 0, 1) := by decide +kernel
theorem dX7_night_157 : decode cX7_night 157 = .ok (.aload_n 0, 1) := by decide +kernel
theorem dX7_night_158 : decode cX7_night 158 = .ok (.getfield 43, 3) := by decide +kernel
theorem dX7_night_161 : decode cX7_night 161 = .ok (.invokevirtual 209, 3) := by decide +kernel
theorem dX7_night_164 : decode cX7_night 164 = .ok (.ireturn, 1) := by decide +kernel
set_option maxRecDepth 20000 in
theorem ggX7_keep_X7_copy : GoodIn wsX7_keep wsX7_copy := goodIn_r _ [7] (by decide +kernel) (by decide +kernel)
set_option maxRecDepth 20000 in
theorem gX7_keep_X7_copy : GoodIn wsX7_keep (va_wsS RX7 141 yX7_copy wsX7_copy) := goodIn_app (goodIn_of _ (by decide +kernel)) ggX7_keep_X7_copy
theorem dX7_keep_0 : decode cX7_keep 0 = .ok (.aload_n 0, 1) := by decide +kernel
theorem dX7_keep_1 : decode cX7_keep 1 = .ok (.getfield 138, 3) := by decide +kernel
theorem dX7_keep_4 : decode cX7_keep 4 = .ok (.iconst 2, 1) := by decide +kernel
theorem dX7_keep_5 : decode cX7_keep 5 = .ok (.if_icmp .ne 6, 3) := by decide +kernel
theorem dX7_keep_8 : decode cX7_keep 8 = .ok (.bipush (-3), 2) := by decide +kernel
theorem dX7_keep_10 : decode cX7_keep 10 = .ok (.ireturn, 1) := by decide +kernel
theorem dX7_keep_11 : decode cX7_keep 11 = .ok (.aload_n 0, 1) := by decide +kernel
theorem dX7_keep_12 : decode cX7_keep 12 = .ok (.getfield 40, 3) := by decide +kernel
theorem dX7_keep_15 : decode cX7_keep 15 = .ok (.iconst 0, 1) := by decide +kernel
theorem dX7_keep_16 : decode cX7_keep 16 = .ok (.aload_n 0, 1) := by decide +kernel
theorem dX7_keep_17 : decode cX7_keep 17 = .ok (.getfield 49, 3) := by decide +kernel
theorem dX7_keep_20 : decode cX7_keep 20 = .ok (.bipush 19, 2) := by decide +kernel
theorem dX7_keep_22 : decode cX7_keep 22 = .ok (.aload_n 0, 1) := by decide +kernel
theorem dX7_keep_23 : decode cX7_keep 23 = .ok (.getfield 138, 3) := by decide +kernel
theorem dX7_keep_26 : decode cX7_keep 26 = .ok (.imul, 1) := by decide +kernel
theorem dX7_keep_27 : decode cX7_keep 27 = .ok (.invokestatic 141, 3) := by decide +kernel
theorem dX7_keep_30 : decode cX7_keep 30 = .ok (.aload_n 0, 1) := by decide +kernel
theorem dX7_keep_31 : decode cX7_keep 31 = .ok (.dup, 1) := by decide +kernel
theorem dX7_keep_32 : decode cX7_keep 32 = .ok (.getfield 138, 3) := by decide +kernel
theorem dX7_keep_35 : decode cX7_keep 35 = .ok (.iconst 1, 1) := by decide +kernel
theorem dX7_keep_36 : decode cX7_keep 36 = .ok (.iadd, 1) := by decide +kernel
theorem dX7_keep_37 : decode cX7_keep 37 = .ok (.putfield 138, 3) := by decide +kernel
theorem dX7_keep_40 : decode cX7_keep 40 = .ok (.aload_n 0, 1) := by decide +kernel
theorem dX7_keep_41 : decode cX7_keep 41 = .ok (.getfield 138, 3) := by decide +kernel
theorem dX7_keep_44 : decode cX7_keep 44 = .ok (.ireturn, 1) := by decide +kernel
set_option maxRecDepth 20000 in
theorem ggX7_back_X7_copy : GoodIn wsX7_back wsX7_copy := goodIn_r _ [8] (by decide +kernel) (by decide +kernel)
set_option maxRecDepth 20000 in
theorem gX7_back_X7_copy : GoodIn wsX7_back (va_wsS RX7 141 yX7_copy wsX7_copy) := goodIn_app (goodIn_of _ (by decide +kernel)) ggX7_back_X7_copy
theorem dX7_back_0 : decode cX7_back 0 = .ok (.aload_n 0, 1) := by decide +kernel
theorem dX7_back_1 : decode cX7_back 1 = .ok (.getfield 138, 3) := by decide +kernel
theorem dX7_back_4 : decode cX7_back 4 = .ok (.ifCond .ne 6, 3) := by decide +kernel
theorem dX7_back_7 : decode cX7_back 7 = .ok (.bipush (-2), 2) := by decide +kernel
theorem dX7_back_9 : decode cX7_back 9 = .ok (.ireturn, 1) := by decide +kernel
theorem dX7_back_10 : decode cX7_back 10 = .ok (.aload_n 0, 1) := by decide +kernel
theorem dX7_back_11 : decode cX7_back 11 = .ok (.dup, 1) := by decide +kernel
theorem dX7_back_12 : decode cX7_back 12 = .ok (.getfield 138, 3) := by decide +kernel
theorem dX7_back_15 : decode cX7_back 15 = .ok (.iconst 1, 1) := by decide +kernel
theorem dX7_back_16 : decode cX7_back 16 = .ok (.isub, 1) := by decide +kernel
theorem dX7_back_17 : decode cX7_back 17 = .ok (.putfield 138, 3) := by decide +kernel
theorem dX7_back_20 : decode cX7_back 20 = .ok (.aload_n 0, 1) := by decide +kernel
theorem dX7_back_21 : decode cX7_back 21 = .ok (.getfield 49, 3) := by decide +kernel
theorem dX7_back_24 : decode cX7_back 24 = .ok (.bipush 19, 2) := by decide +kernel
theorem dX7_back_26 : decode cX7_back 26 = .ok (.aload_n 0, 1) := by decide +kernel
theorem dX7_back_27 : decode cX7_back 27 = .ok (.getfield 138, 3) := by decide +kernel
theorem dX7_back_30 : decode cX7_back 30 = .ok (.imul, 1) := by decide +kernel
theorem dX7_back_31 : decode cX7_back 31 = .ok (.aload_n 0, 1) := by decide +kernel
theorem dX7_back_32 : decode cX7_back 32 = .ok (.getfield 40, 3) := by decide +kernel
theorem dX7_back_35 : decode cX7_back 35 = .ok (.iconst 0, 1) := by decide +kernel
theorem dX7_back_36 : decode cX7_back 36 = .ok (.invokestatic 141, 3) := by decide +kernel
theorem dX7_back_39 : decode cX7_back 39 = .ok (.aload_n 0, 1) := by decide +kernel
theorem dX7_back_40 : decode cX7_back 40 = .ok (.iconst 0, 1) := by decide +kernel
theorem dX7_back_41 : decode cX7_back 41 = .ok (.putfield 135, 3) := by decide +kernel
theorem dX7_back_44 : decode cX7_back 44 = .ok (.aload_n 0, 1) := by decide +kernel
theorem dX7_back_45 : decode cX7_back 45 = .ok (.getfield 138, 3) := by decide +kernel
theorem dX7_back_48 : decode cX7_back 48 = .ok (.ireturn, 1) := by decide +kernel
set_option maxRecDepth 20000 in
theorem ggX7_count_X7_litOf : GoodIn wsX7_count wsX7_litOf := goodIn_r _ [11, 1, 16, 17, 18, 19, 20, 21, 22, 23, 24, 25, 26, 27, 28, 29, 30, 31, 32, 33, 34, 35, 36, 37, 38, 39, 40, 41, 42, 43, 44, 45, 46, 47, 48, 49, 50] (by decide +kernel) (by decide +kernel)
set_option maxRecDepth 20000 in
theorem gX7_count_X7_litOf : GoodIn wsX7_count (wsV RX7 165 RX7 yX7_litOf wsX7_litOf) := goodIn_app (goodIn_of _ (by decide +kernel)) ggX7_count_X7_litOf
set_option maxRecDepth 20000 in
theorem ggX7_count_X7_oilOf : GoodIn wsX7_count wsX7_oilOf := goodIn_r _ [15, 1, 16, 17, 18, 19, 20, 21, 22, 23, 24, 25, 26, 27, 28, 29, 30, 31, 32, 33, 34, 35, 36, 37, 38, 39, 40, 41, 42, 43, 44, 45, 46, 47, 48, 49, 50] (by decide +kernel) (by decide +kernel)
set_option maxRecDepth 20000 in
theorem gX7_count_X7_oilOf : GoodIn wsX7_count (wsV RX7 209 RX7 yX7_oilOf wsX7_oilOf) := goodIn_app (goodIn_of _ (by decide +kernel)) ggX7_count_X7_oilOf
theorem dX7_count_0 : decode cX7_count 0 = .ok (.iload_n 1, 1) := by decide +kernel
theorem dX7_count_1 : decode cX7_count 1 = .ok (.tableswitch 98 0 7 #[47, 52, 60, 69, 78, 83, 88, 93], 47) := by decide +kernel
theorem dX7_count_48 : decode cX7_count 48 = .ok (.aload_n 0, 1) := by decide +kernel
theorem dX7_count_49 : decode cX7_count 49 = .ok (.getfield 71, 3) := by decide +kernel
theorem dX7_count_52 : decode cX7_count 52 = .ok (.ireturn, 1) := by decide +kernel
theorem dX7_count_53 : decode cX7_count 53 = .ok (.aload_n 0, 1) := by decide +kernel
theorem dX7_count_54 : decode cX7_count 54 = .ok (.getfield 40, 3) := by decide +kernel
theorem dX7_count_57 : decode cX7_count 57 = .ok (.bipush 18, 2) := by decide +kernel
theorem dX7_count_59 : decode cX7_count 59 = .ok (.iaload, 1) := by decide +kernel
theorem dX7_count_60 : decode cX7_count 60 = .ok (.ireturn, 1) := by decide +kernel
theorem dX7_count_61 : decode cX7_count 61 = .ok (.aload_n 0, 1) := by decide +kernel
theorem dX7_count_62 : decode cX7_count 62 = .ok (.aload_n 0, 1) := by decide +kernel
theorem dX7_count_63 : decode cX7_count 63 = .ok (.getfield 40, 3) := by decide +kernel
theorem dX7_count_66 : decode cX7_count 66 = .ok (.invokevirtual 165, 3) := by decide +kernel
theorem dX7_count_69 : decode cX7_count 69 = .ok (.ireturn, 1) := by decide +kernel
theorem dX7_count_70 : decode cX7_count 70 = .ok (.aload_n 0, 1) := by decide +kernel
theorem dX7_count_71 : decode cX7_count 71 = .ok (.aload_n 0, 1) := by decide +kernel
theorem dX7_count_72 : decode cX7_count 72 = .ok (.getfield 40, 3) := by decide +kernel
theorem dX7_count_75 : decode cX7_count 75 = .ok (.invokevirtual 209, 3) := by decide +kernel
theorem dX7_count_78 : decode cX7_count 78 = .ok (.ireturn, 1) := by decide +kernel
theorem dX7_count_79 : decode cX7_count 79 = .ok (.aload_n 0, 1) := by decide +kernel
theorem dX7_count_80 : decode cX7_count 80 = .ok (.getfield 132, 3) := by decide +kernel
theorem dX7_count_83 : decode cX7_count 83 = .ok (.ireturn, 1) := by decide +kernel
theorem dX7_count_84 : decode cX7_count 84 = .ok (.aload_n 0, 1) := by decide +kernel
theorem dX7_count_85 : decode cX7_count 85 = .ok (.getfield 135, 3) := by decide +kernel
theorem dX7_count_88 : decode cX7_count 88 = .ok (.ireturn, 1) := by decide +kernel
theorem dX7_count_89 : decode cX7_count 89 = .ok (.aload_n 0, 1) := by decide +kernel
theorem dX7_count_90 : decode cX7_count 90 = .ok (.getfield 138, 3) := by decide +kernel
theorem dX7_count_93 : decode cX7_count 93 = .ok (.ireturn, 1) := by decide +kernel
theorem dX7_count_94 : decode cX7_count 94 = .ok (.aload_n 0, 1) := by decide +kernel
theorem dX7_count_95 : decode cX7_count 95 = .ok (.getfield 88, 3) := by decide +kernel
theorem dX7_count_98 : decode cX7_count 98 = .ok (.ireturn, 1) := by decide +kernel
theorem dX7_count_99 : decode cX7_count 99 = .ok (.iconst (-1), 1) := by decide +kernel
theorem dX7_count_100 : decode cX7_count 100 = .ok (.ireturn, 1) := by decide +kernel
theorem dJ6_bitCount_0f7a4_0 : decode cJ6_bitCount_0f7a4 0 = .ok (.iload_n 0, 1) := by decide +kernel
theorem dJ6_bitCount_0f7a4_1 : decode cJ6_bitCount_0f7a4 1 = .ok (.iload_n 0, 1) := by decide +kernel
theorem dJ6_bitCount_0f7a4_2 : decode cJ6_bitCount_0f7a4 2 = .ok (.iconst 1, 1) := by decide +kernel
theorem dJ6_bitCount_0f7a4_3 : decode cJ6_bitCount_0f7a4 3 = .ok (.iushr, 1) := by decide +kernel
theorem dJ6_bitCount_0f7a4_4 : decode cJ6_bitCount_0f7a4 4 = .ok (.ldc_w 265, 3) := by decide +kernel
theorem dJ6_bitCount_0f7a4_7 : decode cJ6_bitCount_0f7a4 7 = .ok (.iand, 1) := by decide +kernel
theorem dJ6_bitCount_0f7a4_8 : decode cJ6_bitCount_0f7a4 8 = .ok (.isub, 1) := by decide +kernel
theorem dJ6_bitCount_0f7a4_9 : decode cJ6_bitCount_0f7a4 9 = .ok (.istore_n 0, 1) := by decide +kernel
theorem dJ6_bitCount_0f7a4_10 : decode cJ6_bitCount_0f7a4 10 = .ok (.iload_n 0, 1) := by decide +kernel
theorem dJ6_bitCount_0f7a4_11 : decode cJ6_bitCount_0f7a4 11 = .ok (.ldc_w 266, 3) := by decide +kernel
theorem dJ6_bitCount_0f7a4_14 : decode cJ6_bitCount_0f7a4 14 = .ok (.iand, 1) := by decide +kernel
theorem dJ6_bitCount_0f7a4_15 : decode cJ6_bitCount_0f7a4 15 = .ok (.iload_n 0, 1) := by decide +kernel
theorem dJ6_bitCount_0f7a4_16 : decode cJ6_bitCount_0f7a4 16 = .ok (.iconst 2, 1) := by decide +kernel
theorem dJ6_bitCount_0f7a4_17 : decode cJ6_bitCount_0f7a4 17 = .ok (.iushr, 1) := by decide +kernel
theorem dJ6_bitCount_0f7a4_18 : decode cJ6_bitCount_0f7a4 18 = .ok (.ldc_w 266, 3) := by decide +kernel
theorem dJ6_bitCount_0f7a4_21 : decode cJ6_bitCount_0f7a4 21 = .ok (.iand, 1) := by decide +kernel
theorem dJ6_bitCount_0f7a4_22 : decode cJ6_bitCount_0f7a4 22 = .ok (.iadd, 1) := by decide +kernel
theorem dJ6_bitCount_0f7a4_23 : decode cJ6_bitCount_0f7a4 23 = .ok (.istore_n 0, 1) := by decide +kernel
theorem dJ6_bitCount_0f7a4_24 : decode cJ6_bitCount_0f7a4 24 = .ok (.iload_n 0, 1) := by decide +kernel
theorem dJ6_bitCount_0f7a4_25 : decode cJ6_bitCount_0f7a4 25 = .ok (.iload_n 0, 1) := by decide +kernel
theorem dJ6_bitCount_0f7a4_26 : decode cJ6_bitCount_0f7a4 26 = .ok (.iconst 4, 1) := by decide +kernel
theorem dJ6_bitCount_0f7a4_27 : decode cJ6_bitCount_0f7a4 27 = .ok (.iushr, 1) := by decide +kernel
theorem dJ6_bitCount_0f7a4_28 : decode cJ6_bitCount_0f7a4 28 = .ok (.iadd, 1) := by decide +kernel
theorem dJ6_bitCount_0f7a4_29 : decode cJ6_bitCount_0f7a4 29 = .ok (.ldc_w 267, 3) := by decide +kernel
theorem dJ6_bitCount_0f7a4_32 : decode cJ6_bitCount_0f7a4 32 = .ok (.iand, 1) := by decide +kernel
theorem dJ6_bitCount_0f7a4_33 : decode cJ6_bitCount_0f7a4 33 = .ok (.istore_n 0, 1) := by decide +kernel
theorem dJ6_bitCount_0f7a4_34 : decode cJ6_bitCount_0f7a4 34 = .ok (.iload_n 0, 1) := by decide +kernel
theorem dJ6_bitCount_0f7a4_35 : decode cJ6_bitCount_0f7a4 35 = .ok (.iload_n 0, 1) := by decide +kernel
theorem dJ6_bitCount_0f7a4_36 : decode cJ6_bitCount_0f7a4 36 = .ok (.bipush 8, 2) := by decide +kernel
theorem dJ6_bitCount_0f7a4_38 : decode cJ6_bitCount_0f7a4 38 = .ok (.iushr, 1) := by decide +kernel
theorem dJ6_bitCount_0f7a4_39 : decode cJ6_bitCount_0f7a4 39 = .ok (.iadd, 1) := by decide +kernel
theorem dJ6_bitCount_0f7a4_40 : decode cJ6_bitCount_0f7a4 40 = .ok (.istore_n 0, 1) := by decide +kernel
theorem dJ6_bitCount_0f7a4_41 : decode cJ6_bitCount_0f7a4 41 = .ok (.iload_n 0, 1) := by decide +kernel
theorem dJ6_bitCount_0f7a4_42 : decode cJ6_bitCount_0f7a4 42 = .ok (.iload_n 0, 1) := by decide +kernel
theorem dJ6_bitCount_0f7a4_43 : decode cJ6_bitCount_0f7a4 43 = .ok (.bipush 16, 2) := by decide +kernel
theorem dJ6_bitCount_0f7a4_45 : decode cJ6_bitCount_0f7a4 45 = .ok (.iushr, 1) := by decide +kernel
theorem dJ6_bitCount_0f7a4_46 : decode cJ6_bitCount_0f7a4 46 = .ok (.iadd, 1) := by decide +kernel
theorem dJ6_bitCount_0f7a4_47 : decode cJ6_bitCount_0f7a4 47 = .ok (.istore_n 0, 1) := by decide +kernel
theorem dJ6_bitCount_0f7a4_48 : decode cJ6_bitCount_0f7a4 48 = .ok (.iload_n 0, 1) := by decide +kernel
theorem dJ6_bitCount_0f7a4_49 : decode cJ6_bitCount_0f7a4 49 = .ok (.bipush 63, 2) := by decide +kernel
theorem dJ6_bitCount_0f7a4_51 : decode cJ6_bitCount_0f7a4 51 = .ok (.iand, 1) := by decide +kernel
theorem dJ6_bitCount_0f7a4_52 : decode cJ6_bitCount_0f7a4 52 = .ok (.ireturn, 1) := by decide +kernel
theorem dJ9_floorMod_7cf53_0 : decode cJ9_floorMod_7cf53 0 = .ok (.iload_n 0, 1) := by decide +kernel
theorem dJ9_floorMod_7cf53_1 : decode cJ9_floorMod_7cf53 1 = .ok (.iload_n 1, 1) := by decide +kernel
theorem dJ9_floorMod_7cf53_2 : decode cJ9_floorMod_7cf53 2 = .ok (.irem, 1) := by decide +kernel
theorem dJ9_floorMod_7cf53_3 : decode cJ9_floorMod_7cf53 3 = .ok (.istore_n 2, 1) := by decide +kernel
theorem dJ9_floorMod_7cf53_4 : decode cJ9_floorMod_7cf53 4 = .ok (.iload_n 0, 1) := by decide +kernel
theorem dJ9_floorMod_7cf53_5 : decode cJ9_floorMod_7cf53 5 = .ok (.iload_n 1, 1) := by decide +kernel
theorem dJ9_floorMod_7cf53_6 : decode cJ9_floorMod_7cf53 6 = .ok (.ixor, 1) := by decide +kernel
theorem dJ9_floorMod_7cf53_7 : decode cJ9_floorMod_7cf53 7 = .ok (.ifCond .ge 11, 3) := by decide +kernel
theorem dJ9_floorMod_7cf53_10 : decode cJ9_floorMod_7cf53 10 = .ok (.iload_n 2, 1) := by decide +kernel
theorem dJ9_floorMod_7cf53_11 : decode cJ9_floorMod_7cf53 11 = .ok (.ifCond .eq 7, 3) := by decide +kernel
theorem dJ9_floorMod_7cf53_14 : decode cJ9_floorMod_7cf53 14 = .ok (.iload_n 2, 1) := by decide +kernel
theorem dJ9_floorMod_7cf53_15 : decode cJ9_floorMod_7cf53 15 = .ok (.iload_n 1, 1) := by decide +kernel
theorem dJ9_floorMod_7cf53_16 : decode cJ9_floorMod_7cf53 16 = .ok (.iadd, 1) := by decide +kernel
theorem dJ9_floorMod_7cf53_17 : decode cJ9_floorMod_7cf53 17 = .ok (.ireturn, 1) := by decide +kernel
theorem dJ9_floorMod_7cf53_18 : decode cJ9_floorMod_7cf53 18 = .ok (.iload_n 2, 1) := by decide +kernel
theorem dJ9_floorMod_7cf53_19 : decode cJ9_floorMod_7cf53 19 = .ok (.ireturn, 1) := by decide +kernel
theorem dJ9_max_7cf53_0 : decode cJ9_max_7cf53 0 = .ok (.iload_n 0, 1) := by decide +kernel
theorem dJ9_max_7cf53_1 : decode cJ9_max_7cf53 1 = .ok (.iload_n 1, 1) := by decide +kernel
theorem dJ9_max_7cf53_2 : decode cJ9_max_7cf53 2 = .ok (.if_icmp .lt 7, 3) := by decide +kernel
theorem dJ9_max_7cf53_5 : decode cJ9_max_7cf53 5 = .ok (.iload_n 0, 1) := by decide +kernel
theorem dJ9_max_7cf53_6 : decode cJ9_max_7cf53 6 = .ok (.goto 4, 3) := by decide +kernel
theorem dJ9_max_7cf53_9 : decode cJ9_max_7cf53 9 = .ok (.iload_n 1, 1) := by decide +kernel
theorem dJ9_max_7cf53_10 : decode cJ9_max_7cf53 10 = .ok (.ireturn, 1) := by decide +kernel
theorem dJ9_min_7cf53_0 : decode cJ9_min_7cf53 0 = .ok (.iload_n 0, 1) := by decide +kernel
theorem dJ9_min_7cf53_1 : decode cJ9_min_7cf53 1 = .ok (.iload_n 1, 1) := by decide +kernel
theorem dJ9_min_7cf53_2 : decode cJ9_min_7cf53 2 = .ok (.if_icmp .gt 7, 3) := by decide +kernel
theorem dJ9_min_7cf53_5 : decode cJ9_min_7cf53 5 = .ok (.iload_n 0, 1) := by decide +kernel
theorem dJ9_min_7cf53_6 : decode cJ9_min_7cf53 6 = .ok (.goto 4, 3) := by decide +kernel
theorem dJ9_min_7cf53_9 : decode cJ9_min_7cf53 9 = .ok (.iload_n 1, 1) := by decide +kernel
theorem dJ9_min_7cf53_10 : decode cJ9_min_7cf53 10 = .ok (.ireturn, 1) := by decide +kernel
