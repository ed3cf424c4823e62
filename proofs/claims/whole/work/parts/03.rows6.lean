set_option maxRecDepth 20000 in
theorem ggX6_init_X3_init : GoodIn wsX6_init wsX3_init := goodIn_r _ [35, 36, 2, 3, 37, 38, 110] (by decide +kernel) (by decide +kernel)
set_option maxRecDepth 20000 in
theorem gX6_init_X3_init : GoodIn wsX6_init (wsX3_init) := ggX6_init_X3_init
set_option maxRecDepth 20000 in
theorem ggX6_init_X2_init : GoodIn wsX6_init wsX2_init := goodIn_r _ [40, 41, 2, 3, 42, 5, 6, 43, 44, 34, 35, 36, 37, 38, 110, 123, 124] (by decide +kernel) (by decide +kernel)
set_option maxRecDepth 20000 in
theorem gX6_init_X2_init_n20 : GoodIn wsX6_init (wsX2_init) := ggX6_init_X2_init
set_option maxRecDepth 20000 in
theorem ggX6_init_X0_init : GoodIn wsX6_init wsX0_init := goodIn_r _ [46, 47, 2, 3, 48, 5, 6, 49, 50, 51, 52, 34, 35, 36, 37, 38, 110, 125, 126, 127, 128] (by decide +kernel) (by decide +kernel)
set_option maxRecDepth 20000 in
theorem gX6_init_X0_init_n27 : GoodIn wsX6_init (wsX0_init) := ggX6_init_X0_init
set_option maxRecDepth 20000 in
theorem ggX6_init_X4_init : GoodIn wsX6_init wsX4_init := goodIn_r _ [55, 56, 2, 3, 57, 58, 22, 23, 59, 60, 61, 62, 5, 6, 63, 64, 65, 34, 35, 36, 37, 38, 129, 130, 131, 132, 133, 134, 135, 110] (by decide +kernel) (by decide +kernel)
set_option maxRecDepth 20000 in
theorem gX6_init_X4_init : GoodIn wsX6_init (wsX4_init) := ggX6_init_X4_init
set_option maxRecDepth 20000 in
theorem ggX6_init_X1_init : GoodIn wsX6_init wsX1_init := goodIn_r _ [60, 61, 2, 3, 62, 5, 6, 63, 64, 65, 34, 35, 36, 37, 38, 110, 131, 132, 133, 134, 135] (by decide +kernel) (by decide +kernel)
set_option maxRecDepth 20000 in
theorem gX6_init_X1_init_n44 : GoodIn wsX6_init (wsX1_init) := ggX6_init_X1_init
set_option maxRecDepth 20000 in
theorem ggX6_init_X5_init : GoodIn wsX6_init wsX5_init := goodIn_r _ [67, 68, 2, 3, 69, 5, 6, 70, 71, 72, 73, 74, 75, 76, 77, 78, 34, 35, 36, 37, 38, 110, 136, 137, 138, 139, 140, 141, 142, 143, 144, 145, 146] (by decide +kernel) (by decide +kernel)
set_option maxRecDepth 20000 in
theorem gX6_init_X5_init_n60 : GoodIn wsX6_init (wsX5_init) := ggX6_init_X5_init
set_option maxRecDepth 20000 in
theorem ggX6_init_X5_addMan : GoodIn wsX6_init wsX5_addMan := goodIn_r _ [82, 83, 70, 84, 85, 86, 6, 87, 38, 136, 137, 138, 139, 140, 141, 142, 143, 144, 145, 146, 110] (by decide +kernel) (by decide +kernel)
set_option maxRecDepth 20000 in
theorem gX6_init_X5_addMan : GoodIn wsX6_init (wsV RX6 68 RX5 yX5_addMan wsX5_addMan) := goodIn_app (goodIn_of _ (by decide +kernel)) ggX6_init_X5_addMan
set_option maxRecDepth 20000 in
theorem ggX6_init_X5_tellOil : GoodIn wsX6_init wsX5_tellOil := goodIn_r _ [91, 83, 71, 92, 93, 84, 85, 86, 6, 87, 38, 136, 137, 138, 139, 140, 141, 142, 143, 144, 145, 146, 110] (by decide +kernel) (by decide +kernel)
set_option maxRecDepth 20000 in
theorem gX6_init_X5_tellOil : GoodIn wsX6_init (wsV RX6 72 RX5 yX5_tellOil wsX5_tellOil) := goodIn_app (goodIn_of _ (by decide +kernel)) ggX6_init_X5_tellOil
set_option maxRecDepth 20000 in
theorem ggX6_init_X1_begin : GoodIn wsX6_init wsX1_begin := goodIn_r _ [97, 98, 63, 64, 99, 100, 101, 85, 86, 6, 87, 38, 102, 103, 104, 105, 106, 107, 108, 109, 136, 137, 138, 139, 140, 141, 142, 143, 144, 145, 146, 131, 132, 133, 134, 135, 110] (by decide +kernel) (by decide +kernel)
set_option maxRecDepth 20000 in
theorem gX6_init_X1_begin : GoodIn wsX6_init (wsV RX6 76 RX1 yX1_begin wsX1_begin) := goodIn_app (goodIn_of _ (by decide +kernel)) ggX6_init_X1_begin
theorem dX6_init_0 : decode cX6_init 0 = .ok (.aload_n 0, 1) := by decide +kernel
theorem dX6_init_1 : decode cX6_init 1 = .ok (.invokespecial 1, 3) := by decide +kernel
theorem dX6_init_4 : decode cX6_init 4 = .ok (.aload_n 0, 1) := by decide +kernel
theorem dX6_init_5 : decode cX6_init 5 = .ok (.new 7, 3) := by decide +kernel
theorem dX6_init_8 : decode cX6_init 8 = .ok (.dup, 1) := by decide +kernel
theorem dX6_init_9 : decode cX6_init 9 = .ok (.sipush 300, 3) := by decide +kernel
theorem dX6_init_12 : decode cX6_init 12 = .ok (.invokespecial 11, 3) := by decide +kernel
theorem dX6_init_15 : decode cX6_init 15 = .ok (.putfield 14, 3) := by decide +kernel
theorem dX6_init_18 : decode cX6_init 18 = .ok (.aload_n 0, 1) := by decide +kernel
theorem dX6_init_19 : decode cX6_init 19 = .ok (.new 18, 3) := by decide +kernel
theorem dX6_init_22 : decode cX6_init 22 = .ok (.dup, 1) := by decide +kernel
theorem dX6_init_23 : decode cX6_init 23 = .ok (.invokespecial 20, 3) := by decide +kernel
theorem dX6_init_26 : decode cX6_init 26 = .ok (.putfield 21, 3) := by decide +kernel
theorem dX6_init_29 : decode cX6_init 29 = .ok (.aload_n 0, 1) := by decide +kernel
theorem dX6_init_30 : decode cX6_init 30 = .ok (.new 25, 3) := by decide +kernel
theorem dX6_init_33 : decode cX6_init 33 = .ok (.dup, 1) := by decide +kernel
theorem dX6_init_34 : decode cX6_init 34 = .ok (.invokespecial 27, 3) := by decide +kernel
theorem dX6_init_37 : decode cX6_init 37 = .ok (.putfield 28, 3) := by decide +kernel
theorem dX6_init_40 : decode cX6_init 40 = .ok (.aload_n 0, 1) := by decide +kernel
theorem dX6_init_41 : decode cX6_init 41 = .ok (.new 32, 3) := by decide +kernel
theorem dX6_init_44 : decode cX6_init 44 = .ok (.dup, 1) := by decide +kernel
theorem dX6_init_45 : decode cX6_init 45 = .ok (.bipush 8, 2) := by decide +kernel
theorem dX6_init_47 : decode cX6_init 47 = .ok (.invokespecial 34, 3) := by decide +kernel
theorem dX6_init_50 : decode cX6_init 50 = .ok (.putfield 35, 3) := by decide +kernel
theorem dX6_init_53 : decode cX6_init 53 = .ok (.aload_n 0, 1) := by decide +kernel
theorem dX6_init_54 : decode cX6_init 54 = .ok (.new 32, 3) := by decide +kernel
theorem dX6_init_57 : decode cX6_init 57 = .ok (.dup, 1) := by decide +kernel
theorem dX6_init_58 : decode cX6_init 58 = .ok (.iconst 2, 1) := by decide +kernel
theorem dX6_init_59 : decode cX6_init 59 = .ok (.invokespecial 34, 3) := by decide +kernel
theorem dX6_init_62 : decode cX6_init 62 = .ok (.putfield 39, 3) := by decide +kernel
theorem dX6_init_65 : decode cX6_init 65 = .ok (.aload_n 0, 1) := by decide +kernel
theorem dX6_init_66 : decode cX6_init 66 = .ok (.new 42, 3) := by decide +kernel
theorem dX6_init_69 : decode cX6_init 69 = .ok (.dup, 1) := by decide +kernel
theorem dX6_init_70 : decode cX6_init 70 = .ok (.invokespecial 44, 3) := by decide +kernel
theorem dX6_init_73 : decode cX6_init 73 = .ok (.putfield 45, 3) := by decide +kernel
theorem dX6_init_76 : decode cX6_init 76 = .ok (.aload_n 0, 1) := by decide +kernel
theorem dX6_init_77 : decode cX6_init 77 = .ok (.new 42, 3) := by decide +kernel
theorem dX6_init_80 : decode cX6_init 80 = .ok (.dup, 1) := by decide +kernel
theorem dX6_init_81 : decode cX6_init 81 = .ok (.invokespecial 44, 3) := by decide +kernel
theorem dX6_init_84 : decode cX6_init 84 = .ok (.putfield 49, 3) := by decide +kernel
theorem dX6_init_87 : decode cX6_init 87 = .ok (.aload_n 0, 1) := by decide +kernel
theorem dX6_init_88 : decode cX6_init 88 = .ok (.new 7, 3) := by decide +kernel
theorem dX6_init_91 : decode cX6_init 91 = .ok (.dup, 1) := by decide +kernel
theorem dX6_init_92 : decode cX6_init 92 = .ok (.bipush 6, 2) := by decide +kernel
theorem dX6_init_94 : decode cX6_init 94 = .ok (.invokespecial 11, 3) := by decide +kernel
theorem dX6_init_97 : decode cX6_init 97 = .ok (.putfield 52, 3) := by decide +kernel
theorem dX6_init_100 : decode cX6_init 100 = .ok (.aload_n 0, 1) := by decide +kernel
theorem dX6_init_101 : decode cX6_init 101 = .ok (.new 7, 3) := by decide +kernel
theorem dX6_init_104 : decode cX6_init 104 = .ok (.dup, 1) := by decide +kernel
theorem dX6_init_105 : decode cX6_init 105 = .ok (.bipush 6, 2) := by decide +kernel
theorem dX6_init_107 : decode cX6_init 107 = .ok (.invokespecial 11, 3) := by decide +kernel
theorem dX6_init_110 : decode cX6_init 110 = .ok (.putfield 55, 3) := by decide +kernel
theorem dX6_init_113 : decode cX6_init 113 = .ok (.aload_n 0, 1) := by decide +kernel
theorem dX6_init_114 : decode cX6_init 114 = .ok (.new 58, 3) := by decide +kernel
theorem dX6_init_117 : decode cX6_init 117 = .ok (.dup, 1) := by decide +kernel
theorem dX6_init_118 : decode cX6_init 118 = .ok (.invokespecial 60, 3) := by decide +kernel
theorem dX6_init_121 : decode cX6_init 121 = .ok (.putfield 61, 3) := by decide +kernel
theorem dX6_init_124 : decode cX6_init 124 = .ok (.aload_n 0, 1) := by decide +kernel
theorem dX6_init_125 : decode cX6_init 125 = .ok (.new 58, 3) := by decide +kernel
theorem dX6_init_128 : decode cX6_init 128 = .ok (.dup, 1) := by decide +kernel
theorem dX6_init_129 : decode cX6_init 129 = .ok (.invokespecial 60, 3) := by decide +kernel
theorem dX6_init_132 : decode cX6_init 132 = .ok (.putfield 65, 3) := by decide +kernel
theorem dX6_init_135 : decode cX6_init 135 = .ok (.aload_n 0, 1) := by decide +kernel
theorem dX6_init_136 : decode cX6_init 136 = .ok (.getfield 61, 3) := by decide +kernel
theorem dX6_init_139 : decode cX6_init 139 = .ok (.iconst 0, 1) := by decide +kernel
theorem dX6_init_140 : decode cX6_init 140 = .ok (.invokevirtual 68, 3) := by decide +kernel
theorem dX6_init_143 : decode cX6_init 143 = .ok (.pop, 1) := by decide +kernel
theorem dX6_init_144 : decode cX6_init 144 = .ok (.aload_n 0, 1) := by decide +kernel
theorem dX6_init_145 : decode cX6_init 145 = .ok (.getfield 61, 3) := by decide +kernel
theorem dX6_init_148 : decode cX6_init 148 = .ok (.iconst 0, 1) := by decide +kernel
theorem dX6_init_149 : decode cX6_init 149 = .ok (.invokevirtual 68, 3) := by decide +kernel
theorem dX6_init_152 : decode cX6_init 152 = .ok (.pop, 1) := by decide +kernel
theorem dX6_init_153 : decode cX6_init 153 = .ok (.aload_n 0, 1) := by decide +kernel
theorem dX6_init_154 : decode cX6_init 154 = .ok (.getfield 61, 3) := by decide +kernel
theorem dX6_init_157 : decode cX6_init 157 = .ok (.iconst 0, 1) := by decide +kernel
theorem dX6_init_158 : decode cX6_init 158 = .ok (.invokevirtual 68, 3) := by decide +kernel
theorem dX6_init_161 : decode cX6_init 161 = .ok (.pop, 1) := by decide +kernel
theorem dX6_init_162 : decode cX6_init 162 = .ok (.aload_n 0, 1) := by decide +kernel
theorem dX6_init_163 : decode cX6_init 163 = .ok (.getfield 61, 3) := by decide +kernel
theorem dX6_init_166 : decode cX6_init 166 = .ok (.iconst 0, 1) := by decide +kernel
theorem dX6_init_167 : decode cX6_init 167 = .ok (.iconst 5, 1) := by decide +kernel
theorem dX6_init_168 : decode cX6_init 168 = .ok (.iconst 1, 1) := by decide +kernel
theorem dX6_init_169 : decode cX6_init 169 = .ok (.invokevirtual 72, 3) := by decide +kernel
theorem dX6_init_172 : decode cX6_init 172 = .ok (.pop, 1) := by decide +kernel
theorem dX6_init_173 : decode cX6_init 173 = .ok (.aload_n 0, 1) := by decide +kernel
theorem dX6_init_174 : decode cX6_init 174 = .ok (.getfield 61, 3) := by decide +kernel
theorem dX6_init_177 : decode cX6_init 177 = .ok (.iconst 1, 1) := by decide +kernel
theorem dX6_init_178 : decode cX6_init 178 = .ok (.bipush 9, 2) := by decide +kernel
theorem dX6_init_180 : decode cX6_init 180 = .ok (.iconst 0, 1) := by decide +kernel
theorem dX6_init_181 : decode cX6_init 181 = .ok (.invokevirtual 72, 3) := by decide +kernel
theorem dX6_init_184 : decode cX6_init 184 = .ok (.pop, 1) := by decide +kernel
theorem dX6_init_185 : decode cX6_init 185 = .ok (.aload_n 0, 1) := by decide +kernel
theorem dX6_init_186 : decode cX6_init 186 = .ok (.getfield 45, 3) := by decide +kernel
theorem dX6_init_189 : decode cX6_init 189 = .ok (.aload_n 0, 1) := by decide +kernel
theorem dX6_init_190 : decode cX6_init 190 = .ok (.getfield 61, 3) := by decide +kernel
theorem dX6_init_193 : decode cX6_init 193 = .ok (.invokevirtual 76, 3) := by decide +kernel
theorem dX6_init_196 : decode cX6_init 196 = .ok (.return_, 1) := by decide +kernel
set_option maxRecDepth 20000 in
theorem ggX6_write_X3_set : GoodIn wsX6_write wsX3_set := goodIn_r _ [7, 8, 21] (by decide +kernel) (by decide +kernel)
set_option maxRecDepth 20000 in
theorem gX6_write_X3_set : GoodIn wsX6_write (wsV RX6 84 RX3 yX3_set wsX3_set) := goodIn_app (goodIn_of _ (by decide +kernel)) ggX6_write_X3_set
theorem dX6_write_0 : decode cX6_write 0 = .ok (.iload_n 1, 1) := by decide +kernel
theorem dX6_write_1 : decode cX6_write 1 = .ok (.iconst 1, 1) := by decide +kernel
theorem dX6_write_2 : decode cX6_write 2 = .ok (.if_icmp .lt 9, 3) := by decide +kernel
theorem dX6_write_5 : decode cX6_write 5 = .ok (.iload_n 1, 1) := by decide +kernel
theorem dX6_write_6 : decode cX6_write 6 = .ok (.bipush 8, 2) := by decide +kernel
theorem dX6_write_8 : decode cX6_write 8 = .ok (.if_icmp .le 5, 3) := by decide +kernel
theorem dX6_write_11 : decode cX6_write 11 = .ok (.iconst (-1), 1) := by decide +kernel
theorem dX6_write_12 : decode cX6_write 12 = .ok (.ireturn, 1) := by decide +kernel
theorem dX6_write_13 : decode cX6_write 13 = .ok (.aload_n 0, 1) := by decide +kernel
theorem dX6_write_14 : decode cX6_write 14 = .ok (.getfield 80, 3) := by decide +kernel
theorem dX6_write_17 : decode cX6_write 17 = .ok (.iload_n 1, 1) := by decide +kernel
theorem dX6_write_18 : decode cX6_write 18 = .ok (.iadd, 1) := by decide +kernel
theorem dX6_write_19 : decode cX6_write 19 = .ok (.sipush 300, 3) := by decide +kernel
theorem dX6_write_22 : decode cX6_write 22 = .ok (.if_icmp .le 6, 3) := by decide +kernel
theorem dX6_write_25 : decode cX6_write 25 = .ok (.bipush (-3), 2) := by decide +kernel
theorem dX6_write_27 : decode cX6_write 27 = .ok (.ireturn, 1) := by decide +kernel
theorem dX6_write_28 : decode cX6_write 28 = .ok (.iload_n 1, 1) := by decide +kernel
theorem dX6_write_29 : decode cX6_write 29 = .ok (.iconst 1, 1) := by decide +kernel
theorem dX6_write_30 : decode cX6_write 30 = .ok (.isub, 1) := by decide +kernel
theorem dX6_write_31 : decode cX6_write 31 = .ok (.istore 4, 2) := by decide +kernel
theorem dX6_write_33 : decode cX6_write 33 = .ok (.iload 4, 2) := by decide +kernel
theorem dX6_write_35 : decode cX6_write 35 = .ok (.ifCond .lt 42, 3) := by decide +kernel
theorem dX6_write_38 : decode cX6_write 38 = .ok (.aload_n 0, 1) := by decide +kernel
theorem dX6_write_39 : decode cX6_write 39 = .ok (.getfield 14, 3) := by decide +kernel
theorem dX6_write_42 : decode cX6_write 42 = .ok (.aload_n 0, 1) := by decide +kernel
theorem dX6_write_43 : decode cX6_write 43 = .ok (.getfield 80, 3) := by decide +kernel
theorem dX6_write_46 : decode cX6_write 46 = .ok (.lload_n 2, 1) := by decide +kernel
theorem dX6_write_47 : decode cX6_write 47 = .ok (.bipush 8, 2) := by decide +kernel
theorem dX6_write_49 : decode cX6_write 49 = .ok (.iload 4, 2) := by decide +kernel
theorem dX6_write_51 : decode cX6_write 51 = .ok (.imul, 1) := by decide +kernel
theorem dX6_write_52 : decode cX6_write 52 = .ok (.lushr, 1) := by decide +kernel
theorem dX6_write_53 : decode cX6_write 53 = .ok (.l2i, 1) := by decide +kernel
theorem dX6_write_54 : decode cX6_write 54 = .ok (.sipush 255, 3) := by decide +kernel
theorem dX6_write_57 : decode cX6_write 57 = .ok (.iand, 1) := by decide +kernel
theorem dX6_write_58 : decode cX6_write 58 = .ok (.invokevirtual 84, 3) := by decide +kernel
theorem dX6_write_61 : decode cX6_write 61 = .ok (.aload_n 0, 1) := by decide +kernel
theorem dX6_write_62 : decode cX6_write 62 = .ok (.dup, 1) := by decide +kernel
theorem dX6_write_63 : decode cX6_write 63 = .ok (.getfield 80, 3) := by decide +kernel
theorem dX6_write_66 : decode cX6_write 66 = .ok (.iconst 1, 1) := by decide +kernel
theorem dX6_write_67 : decode cX6_write 67 = .ok (.iadd, 1) := by decide +kernel
theorem dX6_write_68 : decode cX6_write 68 = .ok (.putfield 80, 3) := by decide +kernel
theorem dX6_write_71 : decode cX6_write 71 = .ok (.iinc 4 (-1), 3) := by decide +kernel
theorem dX6_write_74 : decode cX6_write 74 = .ok (.goto (-41), 3) := by decide +kernel
theorem dX6_write_77 : decode cX6_write 77 = .ok (.aload_n 0, 1) := by decide +kernel
theorem dX6_write_78 : decode cX6_write 78 = .ok (.getfield 80, 3) := by decide +kernel
theorem dX6_write_81 : decode cX6_write 81 = .ok (.ireturn, 1) := by decide +kernel
theorem dX6_wipe_0 : decode cX6_wipe 0 = .ok (.aload_n 0, 1) := by decide +kernel
theorem dX6_wipe_1 : decode cX6_wipe 1 = .ok (.getfield 80, 3) := by decide +kernel
theorem dX6_wipe_4 : decode cX6_wipe 4 = .ok (.istore_n 1, 1) := by decide +kernel
theorem dX6_wipe_5 : decode cX6_wipe 5 = .ok (.aload_n 0, 1) := by decide +kernel
theorem dX6_wipe_6 : decode cX6_wipe 6 = .ok (.iconst 0, 1) := by decide +kernel
theorem dX6_wipe_7 : decode cX6_wipe 7 = .ok (.putfield 80, 3) := by decide +kernel
theorem dX6_wipe_10 : decode cX6_wipe 10 = .ok (.iload_n 1, 1) := by decide +kernel
theorem dX6_wipe_11 : decode cX6_wipe 11 = .ok (.ireturn, 1) := by decide +kernel
set_option maxRecDepth 20000 in
theorem ggX6_fault_X2_firstFault : GoodIn wsX6_fault wsX2_firstFault := goodIn_r _ [9, 10, 11, 12, 13, 14, 15, 16, 17, 18, 19, 20, 21, 22, 23, 24, 25, 26, 27, 28, 29, 30, 31, 32, 33, 8, 34, 35, 36, 37, 38, 39, 40, 41, 42, 43, 44, 45, 46, 47, 48, 49, 50, 51, 52, 53, 54, 55, 56, 57, 58, 59, 60, 61, 62, 63, 64, 65, 66, 67, 68, 69, 70, 71, 72, 73, 74, 75, 76, 89, 90, 91, 92, 93, 94, 95, 96, 97, 98, 99, 100, 101, 102] (by decide +kernel) (by decide +kernel)
set_option maxRecDepth 20000 in
theorem gX6_fault_X2_firstFault : GoodIn wsX6_fault (wsV RX6 88 RX2 yX2_firstFault wsX2_firstFault) := goodIn_app (goodIn_of _ (by decide +kernel)) ggX6_fault_X2_firstFault
theorem dX6_fault_0 : decode cX6_fault 0 = .ok (.aload_n 0, 1) := by decide +kernel
theorem dX6_fault_1 : decode cX6_fault 1 = .ok (.getfield 21, 3) := by decide +kernel
theorem dX6_fault_4 : decode cX6_fault 4 = .ok (.aload_n 0, 1) := by decide +kernel
theorem dX6_fault_5 : decode cX6_fault 5 = .ok (.getfield 14, 3) := by decide +kernel
theorem dX6_fault_8 : decode cX6_fault 8 = .ok (.aload_n 0, 1) := by decide +kernel
theorem dX6_fault_9 : decode cX6_fault 9 = .ok (.getfield 80, 3) := by decide +kernel
theorem dX6_fault_12 : decode cX6_fault 12 = .ok (.aload_n 0, 1) := by decide +kernel
theorem dX6_fault_13 : decode cX6_fault 13 = .ok (.getfield 65, 3) := by decide +kernel
theorem dX6_fault_16 : decode cX6_fault 16 = .ok (.invokevirtual 88, 3) := by decide +kernel
theorem dX6_fault_19 : decode cX6_fault 19 = .ok (.ireturn, 1) := by decide +kernel
set_option maxRecDepth 20000 in
theorem ggX6_lay_X2_firstFault : GoodIn wsX6_lay wsX2_firstFault := goodIn_r _ [14, 15, 16, 17, 18, 19, 20, 21, 22, 23, 24, 25, 26, 27, 28, 29, 30, 31, 32, 33, 34, 35, 36, 37, 38, 13, 39, 40, 41, 42, 43, 44, 45, 46, 47, 48, 49, 50, 51, 52, 53, 54, 55, 56, 57, 58, 59, 60, 61, 62, 63, 64, 65, 66, 67, 68, 69, 70, 71, 72, 73, 74, 75, 76, 77, 78, 79, 80, 81, 127, 128, 129, 130, 131, 132, 133, 134, 135, 136, 137, 138, 139, 140] (by decide +kernel) (by decide +kernel)
set_option maxRecDepth 20000 in
theorem gX6_lay_X2_firstFault : GoodIn wsX6_lay (wsV RX6 88 RX2 yX2_firstFault wsX2_firstFault) := goodIn_app (goodIn_of _ (by decide +kernel)) ggX6_lay_X2_firstFault
set_option maxRecDepth 20000 in
theorem ggX6_lay_X5_canBeLaid : GoodIn wsX6_lay wsX5_canBeLaid := goodIn_r _ [85, 26, 77, 22, 86, 43, 44, 33, 45, 35, 127, 128, 129, 130, 131, 132, 133, 134, 135, 136, 137, 138] (by decide +kernel) (by decide +kernel)
set_option maxRecDepth 20000 in
theorem gX6_lay_X5_canBeLaid : GoodIn wsX6_lay (wsV RX6 92 RX5 yX5_canBeLaid wsX5_canBeLaid) := goodIn_app (goodIn_of _ (by decide +kernel)) ggX6_lay_X5_canBeLaid
set_option maxRecDepth 20000 in
theorem ggX6_lay_X1_begin : GoodIn wsX6_lay wsX1_begin := goodIn_r _ [91, 92, 93, 94, 95, 96, 97, 47, 48, 33, 49, 35, 98, 99, 100, 101, 102, 43, 44, 45, 127, 128, 129, 130, 131, 132, 133, 134, 135, 136, 137, 141, 142, 143, 144, 145, 138] (by decide +kernel) (by decide +kernel)
set_option maxRecDepth 20000 in
theorem gX6_lay_X1_begin : GoodIn wsX6_lay (wsV RX6 76 RX1 yX1_begin wsX1_begin) := goodIn_app (goodIn_of _ (by decide +kernel)) ggX6_lay_X1_begin
set_option maxRecDepth 20000 in
theorem ggX6_lay_X0_clear : GoodIn wsX6_lay wsX0_clear := goodIn_r _ [107, 108, 146, 147, 148, 149] (by decide +kernel) (by decide +kernel)
set_option maxRecDepth 20000 in
theorem gX6_lay_X0_clear : GoodIn wsX6_lay (wsV RX6 96 RX0 yX0_clear wsX0_clear) := goodIn_app (goodIn_of _ (by decide +kernel)) ggX6_lay_X0_clear
set_option maxRecDepth 20000 in
theorem ggX6_lay_X4_clear : GoodIn wsX6_lay wsX4_clear := goodIn_r _ [113, 114, 150, 151] (by decide +kernel) (by decide +kernel)
set_option maxRecDepth 20000 in
theorem gX6_lay_X4_clear : GoodIn wsX6_lay (wsV RX6 99 RX4 yX4_clear wsX4_clear) := goodIn_app (goodIn_of _ (by decide +kernel)) ggX6_lay_X4_clear
theorem dX6_lay_0 : decode cX6_lay 0 = .ok (.aload_n 0, 1) := by decide +kernel
theorem dX6_lay_1 : decode cX6_lay 1 = .ok (.getfield 21, 3) := by decide +kernel
theorem dX6_lay_4 : decode cX6_lay 4 = .ok (.aload_n 0, 1) := by decide +kernel
theorem dX6_lay_5 : decode cX6_lay 5 = .ok (.getfield 14, 3) := by decide +kernel
theorem dX6_lay_8 : decode cX6_lay 8 = .ok (.aload_n 0, 1) := by decide +kernel
theorem dX6_lay_9 : decode cX6_lay 9 = .ok (.getfield 80, 3) := by decide +kernel
theorem dX6_lay_12 : decode cX6_lay 12 = .ok (.aload_n 0, 1) := by decide +kernel
theorem dX6_lay_13 : decode cX6_lay 13 = .ok (.getfield 65, 3) := by decide +kernel
theorem dX6_lay_16 : decode cX6_lay 16 = .ok (.invokevirtual 88, 3) := by decide +kernel
theorem dX6_lay_19 : decode cX6_lay 19 = .ok (.bipush (-4), 2) := by decide +kernel
theorem dX6_lay_21 : decode cX6_lay 21 = .ok (.if_icmp .ne 13, 3) := by decide +kernel
theorem dX6_lay_24 : decode cX6_lay 24 = .ok (.aload_n 0, 1) := by decide +kernel
theorem dX6_lay_25 : decode cX6_lay 25 = .ok (.getfield 65, 3) := by decide +kernel
theorem dX6_lay_28 : decode cX6_lay 28 = .ok (.invokevirtual 92, 3) := by decide +kernel
theorem dX6_lay_31 : decode cX6_lay 31 = .ok (.ifCond .ne 6, 3) := by decide +kernel
theorem dX6_lay_34 : decode cX6_lay 34 = .ok (.bipush (-2), 2) := by decide +kernel
theorem dX6_lay_36 : decode cX6_lay 36 = .ok (.ireturn, 1) := by decide +kernel
theorem dX6_lay_37 : decode cX6_lay 37 = .ok (.aload_n 0, 1) := by decide +kernel
theorem dX6_lay_38 : decode cX6_lay 38 = .ok (.getfield 61, 3) := by decide +kernel
theorem dX6_lay_41 : decode cX6_lay 41 = .ok (.astore_n 1, 1) := by decide +kernel
theorem dX6_lay_42 : decode cX6_lay 42 = .ok (.aload_n 0, 1) := by decide +kernel
theorem dX6_lay_43 : decode cX6_lay 43 = .ok (.aload_n 0, 1) := by decide +kernel
theorem dX6_lay_44 : decode cX6_lay 44 = .ok (.getfield 65, 3) := by decide +kernel
theorem dX6_lay_47 : decode cX6_lay 47 = .ok (.putfield 61, 3) := by decide +kernel
theorem dX6_lay_50 : decode cX6_lay 50 = .ok (.aload_n 0, 1) := by decide +kernel
theorem dX6_lay_51 : decode cX6_lay 51 = .ok (.aload_n 1, 1) := by decide +kernel
theorem dX6_lay_52 : decode cX6_lay 52 = .ok (.putfield 65, 3) := by decide +kernel
theorem dX6_lay_55 : decode cX6_lay 55 = .ok (.aload_n 0, 1) := by decide +kernel
theorem dX6_lay_56 : decode cX6_lay 56 = .ok (.getfield 45, 3) := by decide +kernel
theorem dX6_lay_59 : decode cX6_lay 59 = .ok (.aload_n 0, 1) := by decide +kernel
theorem dX6_lay_60 : decode cX6_lay 60 = .ok (.getfield 61, 3) := by decide +kernel
theorem dX6_lay_63 : decode cX6_lay 63 = .ok (.invokevirtual 76, 3) := by decide +kernel
theorem dX6_lay_66 : decode cX6_lay 66 = .ok (.aload_n 0, 1) := by decide +kernel
theorem dX6_lay_67 : decode cX6_lay 67 = .ok (.getfield 28, 3) := by decide +kernel
theorem dX6_lay_70 : decode cX6_lay 70 = .ok (.invokevirtual 96, 3) := by decide +kernel
theorem dX6_lay_73 : decode cX6_lay 73 = .ok (.aload_n 0, 1) := by decide +kernel
theorem dX6_lay_74 : decode cX6_lay 74 = .ok (.getfield 35, 3) := by decide +kernel
theorem dX6_lay_77 : decode cX6_lay 77 = .ok (.invokevirtual 99, 3) := by decide +kernel
theorem dX6_lay_80 : decode cX6_lay 80 = .ok (.aload_n 0, 1) := by decide +kernel
theorem dX6_lay_81 : decode cX6_lay 81 = .ok (.getfield 39, 3) := by decide +kernel
theorem dX6_lay_84 : decode cX6_lay 84 = .ok (.invokevirtual 99, 3) := by decide +kernel
theorem dX6_lay_87 : decode cX6_lay 87 = .ok (.aload_n 0, 1) := by decide +kernel
theorem dX6_lay_88 : decode cX6_lay 88 = .ok (.getfield 61, 3) := by decide +kernel
theorem dX6_lay_91 : decode cX6_lay 91 = .ok (.getfield 100, 3) := by decide +kernel
theorem dX6_lay_94 : decode cX6_lay 94 = .ok (.ireturn, 1) := by decide +kernel
set_option maxRecDepth 20000 in
theorem ggX6_lantern_X6_isMan : GoodIn wsX6_lantern wsX6_isMan := goodIn_r _ [7, 2, 26, 27, 28, 29, 30, 31, 32, 33, 34, 35, 36, 37, 43, 44, 45, 46, 47, 48, 49, 50, 51, 52, 53] (by decide +kernel) (by decide +kernel)
set_option maxRecDepth 20000 in
theorem gX6_lantern_X6_isMan : GoodIn wsX6_lantern (wsV RX6 103 RX6 yX6_isMan wsX6_isMan) := goodIn_app (goodIn_of _ (by decide +kernel)) ggX6_lantern_X6_isMan
set_option maxRecDepth 20000 in
theorem ggX6_lantern_X3_get : GoodIn wsX6_lantern wsX3_get := goodIn_r _ [12, 13, 54] (by decide +kernel) (by decide +kernel)
set_option maxRecDepth 20000 in
theorem gX6_lantern_X3_get : GoodIn wsX6_lantern (wsV RX6 109 RX3 yX3_get wsX3_get) := goodIn_app (goodIn_of _ (by decide +kernel)) ggX6_lantern_X3_get
set_option maxRecDepth 20000 in
theorem ggX6_lantern_X1_isLit : GoodIn wsX6_lantern wsX1_isLit := goodIn_r _ [18, 19, 38, 39, 40, 41, 42] (by decide +kernel) (by decide +kernel)
set_option maxRecDepth 20000 in
theorem gX6_lantern_X1_isLit : GoodIn wsX6_lantern (wsV RX6 116 RX1 yX1_isLit wsX1_isLit) := goodIn_app (goodIn_of _ (by decide +kernel)) ggX6_lantern_X1_isLit
set_option maxRecDepth 20000 in
theorem ggX6_lantern_X5_isCheese : GoodIn wsX6_lantern wsX5_isCheese := goodIn_r _ [24, 25, 43, 44, 45, 46, 47, 48, 49, 50, 51, 52, 53] (by decide +kernel) (by decide +kernel)
set_option maxRecDepth 20000 in
theorem gX6_lantern_X5_isCheese : GoodIn wsX6_lantern (wsV RX6 119 RX5 yX5_isCheese wsX5_isCheese) := goodIn_app (goodIn_of _ (by decide +kernel)) ggX6_lantern_X5_isCheese
theorem dX6_lantern_0 : decode cX6_lantern 0 = .ok (.aload_n 0, 1) := by decide +kernel
theorem dX6_lantern_1 : decode cX6_lantern 1 = .ok (.iload_n 1, 1) := by decide +kernel
theorem dX6_lantern_2 : decode cX6_lantern 2 = .ok (.invokevirtual 103, 3) := by decide +kernel
theorem dX6_lantern_5 : decode cX6_lantern 5 = .ok (.ifCond .ne 5, 3) := by decide +kernel
theorem dX6_lantern_8 : decode cX6_lantern 8 = .ok (.iconst (-1), 1) := by decide +kernel
theorem dX6_lantern_9 : decode cX6_lantern 9 = .ok (.ireturn, 1) := by decide +kernel
theorem dX6_lantern_10 : decode cX6_lantern 10 = .ok (.iload_n 2, 1) := by decide +kernel
theorem dX6_lantern_11 : decode cX6_lantern 11 = .ok (.tableswitch 87 0 3 #[29, 41, 53, 70], 29) := by decide +kernel
theorem dX6_lantern_40 : decode cX6_lantern 40 = .ok (.aload_n 0, 1) := by decide +kernel
theorem dX6_lantern_41 : decode cX6_lantern 41 = .ok (.getfield 45, 3) := by decide +kernel
theorem dX6_lantern_44 : decode cX6_lantern 44 = .ok (.getfield 106, 3) := by decide +kernel
theorem dX6_lantern_47 : decode cX6_lantern 47 = .ok (.iload_n 1, 1) := by decide +kernel
theorem dX6_lantern_48 : decode cX6_lantern 48 = .ok (.invokevirtual 109, 3) := by decide +kernel
theorem dX6_lantern_51 : decode cX6_lantern 51 = .ok (.ireturn, 1) := by decide +kernel
theorem dX6_lantern_52 : decode cX6_lantern 52 = .ok (.aload_n 0, 1) := by decide +kernel
theorem dX6_lantern_53 : decode cX6_lantern 53 = .ok (.getfield 45, 3) := by decide +kernel
theorem dX6_lantern_56 : decode cX6_lantern 56 = .ok (.getfield 113, 3) := by decide +kernel
theorem dX6_lantern_59 : decode cX6_lantern 59 = .ok (.iload_n 1, 1) := by decide +kernel
theorem dX6_lantern_60 : decode cX6_lantern 60 = .ok (.invokevirtual 109, 3) := by decide +kernel
theorem dX6_lantern_63 : decode cX6_lantern 63 = .ok (.ireturn, 1) := by decide +kernel
theorem dX6_lantern_64 : decode cX6_lantern 64 = .ok (.aload_n 0, 1) := by decide +kernel
theorem dX6_lantern_65 : decode cX6_lantern 65 = .ok (.getfield 45, 3) := by decide +kernel
theorem dX6_lantern_68 : decode cX6_lantern 68 = .ok (.iload_n 1, 1) := by decide +kernel
theorem dX6_lantern_69 : decode cX6_lantern 69 = .ok (.invokevirtual 116, 3) := by decide +kernel
theorem dX6_lantern_72 : decode cX6_lantern 72 = .ok (.ifCond .eq 7, 3) := by decide +kernel
theorem dX6_lantern_75 : decode cX6_lantern 75 = .ok (.iconst 1, 1) := by decide +kernel
theorem dX6_lantern_76 : decode cX6_lantern 76 = .ok (.goto 4, 3) := by decide +kernel
theorem dX6_lantern_79 : decode cX6_lantern 79 = .ok (.iconst 0, 1) := by decide +kernel
theorem dX6_lantern_80 : decode cX6_lantern 80 = .ok (.ireturn, 1) := by decide +kernel
theorem dX6_lantern_81 : decode cX6_lantern 81 = .ok (.aload_n 0, 1) := by decide +kernel
theorem dX6_lantern_82 : decode cX6_lantern 82 = .ok (.getfield 61, 3) := by decide +kernel
theorem dX6_lantern_85 : decode cX6_lantern 85 = .ok (.iload_n 1, 1) := by decide +kernel
theorem dX6_lantern_86 : decode cX6_lantern 86 = .ok (.invokevirtual 119, 3) := by decide +kernel
theorem dX6_lantern_89 : decode cX6_lantern 89 = .ok (.ifCond .eq 7, 3) := by decide +kernel
theorem dX6_lantern_92 : decode cX6_lantern 92 = .ok (.iconst 1, 1) := by decide +kernel
theorem dX6_lantern_93 : decode cX6_lantern 93 = .ok (.goto 4, 3) := by decide +kernel
theorem dX6_lantern_96 : decode cX6_lantern 96 = .ok (.iconst 0, 1) := by decide +kernel
theorem dX6_lantern_97 : decode cX6_lantern 97 = .ok (.ireturn, 1) := by decide +kernel
theorem dX6_lantern_98 : decode cX6_lantern 98 = .ok (.iconst (-1), 1) := by decide +kernel
theorem dX6_lantern_99 : decode cX6_lantern 99 = .ok (.ireturn, 1) := by decide +kernel
set_option maxRecDepth 20000 in
theorem ggX6_post_X6_isMan : GoodIn wsX6_post wsX6_isMan := goodIn_r _ [7, 1, 84, 85, 86, 87, 88, 89, 90, 91, 92, 93, 94, 95, 96, 97, 98, 99, 100, 101, 102, 103, 104, 105, 106] (by decide +kernel) (by decide +kernel)
set_option maxRecDepth 20000 in
theorem gX6_post_X6_isMan : GoodIn wsX6_post (wsV RX6 103 RX6 yX6_isMan wsX6_isMan) := goodIn_app (goodIn_of _ (by decide +kernel)) ggX6_post_X6_isMan
set_option maxRecDepth 20000 in
theorem ggX6_post_X3_get : GoodIn wsX6_post wsX3_get := goodIn_r _ [12, 13, 107] (by decide +kernel) (by decide +kernel)
set_option maxRecDepth 20000 in
theorem gX6_post_X3_get : GoodIn wsX6_post (wsV RX6 109 RX3 yX3_get wsX3_get) := goodIn_app (goodIn_of _ (by decide +kernel)) ggX6_post_X3_get
set_option maxRecDepth 20000 in
theorem ggX6_post_X1_lanternAt : GoodIn wsX6_post wsX1_lanternAt := goodIn_r _ [18, 19, 20, 21, 9, 10, 11, 12, 13, 108, 109, 110, 111, 112, 107] (by decide +kernel) (by decide +kernel)
set_option maxRecDepth 20000 in
theorem gX6_post_X1_lanternAt : GoodIn wsX6_post (wsV RX6 125 RX1 yX1_lanternAt wsX1_lanternAt) := goodIn_app (goodIn_of _ (by decide +kernel)) ggX6_post_X1_lanternAt
set_option maxRecDepth 20000 in
theorem ggX6_post_X6_warm : GoodIn wsX6_post wsX6_warm := goodIn_r _ [25, 1, 2, 26, 27, 28, 6, 29, 3, 4, 5, 7, 30, 31, 32, 33, 34, 35, 36, 37, 38, 39, 40, 41, 42, 43, 44, 45, 46, 11, 47, 13, 48, 9, 10, 12, 49, 50, 51, 52, 53, 54, 55, 56, 57, 58, 59, 60, 61, 62, 63, 64, 65, 66, 14, 15, 16, 17, 18, 19, 20, 21, 8, 67, 68, 69, 70, 71, 72, 73, 74, 75, 76, 77, 78, 79, 80, 81, 82, 83, 84, 85, 86, 87, 88, 89, 90, 91, 92, 93, 94, 95, 108, 109, 110, 111, 112, 96, 97, 98, 99, 100, 101, 102, 103, 104, 105, 106, 107] (by decide +kernel) (by decide +kernel)
set_option maxRecDepth 20000 in
theorem gX6_post_X6_warm : GoodIn wsX6_post (wsV RX6 128 RX6 yX6_warm wsX6_warm) := goodIn_app (goodIn_of _ (by decide +kernel)) ggX6_post_X6_warm
theorem dX6_post_0 : decode cX6_post 0 = .ok (.aload_n 0, 1) := by decide +kernel
theorem dX6_post_1 : decode cX6_post 1 = .ok (.iload_n 1, 1) := by decide +kernel
theorem dX6_post_2 : decode cX6_post 2 = .ok (.invokevirtual 103, 3) := by decide +kernel
theorem dX6_post_5 : decode cX6_post 5 = .ok (.ifCond .ne 5, 3) := by decide +kernel
theorem dX6_post_8 : decode cX6_post 8 = .ok (.iconst (-1), 1) := by decide +kernel
theorem dX6_post_9 : decode cX6_post 9 = .ok (.ireturn, 1) := by decide +kernel
theorem dX6_post_10 : decode cX6_post 10 = .ok (.iload_n 2, 1) := by decide +kernel
theorem dX6_post_11 : decode cX6_post 11 = .ok (.tableswitch 53 0 2 #[25, 37, 46], 25) := by decide +kernel
theorem dX6_post_36 : decode cX6_post 36 = .ok (.aload_n 0, 1) := by decide +kernel
theorem dX6_post_37 : decode cX6_post 37 = .ok (.getfield 61, 3) := by decide +kernel
theorem dX6_post_40 : decode cX6_post 40 = .ok (.getfield 122, 3) := by decide +kernel
theorem dX6_post_43 : decode cX6_post 43 = .ok (.iload_n 1, 1) := by decide +kernel
theorem dX6_post_44 : decode cX6_post 44 = .ok (.invokevirtual 109, 3) := by decide +kernel
theorem dX6_post_47 : decode cX6_post 47 = .ok (.ireturn, 1) := by decide +kernel
theorem dX6_post_48 : decode cX6_post 48 = .ok (.aload_n 0, 1) := by decide +kernel
theorem dX6_post_49 : decode cX6_post 49 = .ok (.getfield 45, 3) := by decide +kernel
theorem dX6_post_52 : decode cX6_post 52 = .ok (.iload_n 1, 1) := by decide +kernel
theorem dX6_post_53 : decode cX6_post 53 = .ok (.invokevirtual 125, 3) := by decide +kernel
theorem dX6_post_56 : decode cX6_post 56 = .ok (.ireturn, 1) := by decide +kernel
theorem dX6_post_57 : decode cX6_post 57 = .ok (.aload_n 0, 1) := by decide +kernel
theorem dX6_post_58 : decode cX6_post 58 = .ok (.iconst 0, 1) := by decide +kernel
theorem dX6_post_59 : decode cX6_post 59 = .ok (.iload_n 1, 1) := by decide +kernel
theorem dX6_post_60 : decode cX6_post 60 = .ok (.invokevirtual 128, 3) := by decide +kernel
theorem dX6_post_63 : decode cX6_post 63 = .ok (.ireturn, 1) := by decide +kernel
theorem dX6_post_64 : decode cX6_post 64 = .ok (.iconst (-1), 1) := by decide +kernel
theorem dX6_post_65 : decode cX6_post 65 = .ok (.ireturn, 1) := by decide +kernel
set_option maxRecDepth 20000 in
theorem ggX6_fill_X6_isMan : GoodIn wsX6_fill wsX6_isMan := goodIn_r _ [8, 2, 51, 52, 53, 54, 55, 56, 57, 58, 59, 60, 61, 62, 68, 69, 70, 71, 72, 73, 74, 75, 76, 77, 78] (by decide +kernel) (by decide +kernel)
set_option maxRecDepth 20000 in
theorem gX6_fill_X6_isMan : GoodIn wsX6_fill (wsV RX6 103 RX6 yX6_isMan wsX6_isMan) := goodIn_app (goodIn_of _ (by decide +kernel)) ggX6_fill_X6_isMan
set_option maxRecDepth 20000 in
theorem ggX6_fill_X3_get : GoodIn wsX6_fill wsX3_get := goodIn_r _ [13, 14, 79] (by decide +kernel) (by decide +kernel)
set_option maxRecDepth 20000 in
theorem gX6_fill_X3_get : GoodIn wsX6_fill (wsV RX6 109 RX3 yX3_get wsX3_get) := goodIn_app (goodIn_of _ (by decide +kernel)) ggX6_fill_X3_get
set_option maxRecDepth 20000 in
theorem ggX6_fill_X5_isCheese : GoodIn wsX6_fill wsX5_isCheese := goodIn_r _ [19, 20, 68, 69, 70, 71, 72, 73, 74, 75, 76, 77, 78] (by decide +kernel) (by decide +kernel)
set_option maxRecDepth 20000 in
theorem gX6_fill_X5_isCheese : GoodIn wsX6_fill (wsV RX6 119 RX5 yX5_isCheese wsX5_isCheese) := goodIn_app (goodIn_of _ (by decide +kernel)) ggX6_fill_X5_isCheese
set_option maxRecDepth 20000 in
theorem ggX6_fill_X4_put : GoodIn wsX6_fill wsX4_put := goodIn_r _ [25, 26, 27, 28, 29, 30, 24, 31, 32, 33, 34, 35, 36, 37, 38, 39, 40, 41, 42, 43, 44, 12, 45, 14, 46, 10, 11, 13, 80, 81, 63, 64, 65, 66, 67, 79] (by decide +kernel) (by decide +kernel)
set_option maxRecDepth 20000 in
theorem gX6_fill_X4_put : GoodIn wsX6_fill (wsV RX6 132 RX4 yX4_put wsX4_put) := goodIn_app (goodIn_of _ (by decide +kernel)) ggX6_fill_X4_put
set_option maxRecDepth 20000 in
theorem ggX6_fill_X3_set : GoodIn wsX6_fill wsX3_set := goodIn_r _ [50, 14, 79] (by decide +kernel) (by decide +kernel)
set_option maxRecDepth 20000 in
theorem gX6_fill_X3_set : GoodIn wsX6_fill (wsV RX6 84 RX3 yX3_set wsX3_set) := goodIn_app (goodIn_of _ (by decide +kernel)) ggX6_fill_X3_set
theorem dX6_fill_0 : decode cX6_fill 0 = .ok (.aload_n 0, 1) := by decide +kernel
theorem dX6_fill_1 : decode cX6_fill 1 = .ok (.iload_n 1, 1) := by decide +kernel
theorem dX6_fill_2 : decode cX6_fill 2 = .ok (.invokevirtual 103, 3) := by decide +kernel
theorem dX6_fill_5 : decode cX6_fill 5 = .ok (.ifCond .eq 14, 3) := by decide +kernel
theorem dX6_fill_8 : decode cX6_fill 8 = .ok (.iload_n 2, 1) := by decide +kernel
theorem dX6_fill_9 : decode cX6_fill 9 = .ok (.iconst 1, 1) := by decide +kernel
theorem dX6_fill_10 : decode cX6_fill 10 = .ok (.if_icmp .lt 9, 3) := by decide +kernel
theorem dX6_fill_13 : decode cX6_fill 13 = .ok (.iload_n 2, 1) := by decide +kernel
theorem dX6_fill_14 : decode cX6_fill 14 = .ok (.bipush 40, 2) := by decide +kernel
theorem dX6_fill_16 : decode cX6_fill 16 = .ok (.if_icmp .le 5, 3) := by decide +kernel
theorem dX6_fill_19 : decode cX6_fill 19 = .ok (.iconst (-1), 1) := by decide +kernel
theorem dX6_fill_20 : decode cX6_fill 20 = .ok (.ireturn, 1) := by decide +kernel
theorem dX6_fill_21 : decode cX6_fill 21 = .ok (.aload_n 0, 1) := by decide +kernel
theorem dX6_fill_22 : decode cX6_fill 22 = .ok (.getfield 45, 3) := by decide +kernel
theorem dX6_fill_25 : decode cX6_fill 25 = .ok (.getfield 113, 3) := by decide +kernel
theorem dX6_fill_28 : decode cX6_fill 28 = .ok (.iload_n 1, 1) := by decide +kernel
theorem dX6_fill_29 : decode cX6_fill 29 = .ok (.invokevirtual 109, 3) := by decide +kernel
theorem dX6_fill_32 : decode cX6_fill 32 = .ok (.iload_n 2, 1) := by decide +kernel
theorem dX6_fill_33 : decode cX6_fill 33 = .ok (.iadd, 1) := by decide +kernel
theorem dX6_fill_34 : decode cX6_fill 34 = .ok (.istore_n 3, 1) := by decide +kernel
theorem dX6_fill_35 : decode cX6_fill 35 = .ok (.aload_n 0, 1) := by decide +kernel
theorem dX6_fill_36 : decode cX6_fill 36 = .ok (.getfield 61, 3) := by decide +kernel
theorem dX6_fill_39 : decode cX6_fill 39 = .ok (.iload_n 1, 1) := by decide +kernel
theorem dX6_fill_40 : decode cX6_fill 40 = .ok (.invokevirtual 119, 3) := by decide +kernel
theorem dX6_fill_43 : decode cX6_fill 43 = .ok (.ifCond .ne 9, 3) := by decide +kernel
theorem dX6_fill_46 : decode cX6_fill 46 = .ok (.iload_n 3, 1) := by decide +kernel
theorem dX6_fill_47 : decode cX6_fill 47 = .ok (.bipush 99, 2) := by decide +kernel
theorem dX6_fill_49 : decode cX6_fill 49 = .ok (.if_icmp .le 6, 3) := by decide +kernel
theorem dX6_fill_52 : decode cX6_fill 52 = .ok (.bipush (-2), 2) := by decide +kernel
theorem dX6_fill_54 : decode cX6_fill 54 = .ok (.ireturn, 1) := by decide +kernel
theorem dX6_fill_55 : decode cX6_fill 55 = .ok (.aload_n 0, 1) := by decide +kernel
theorem dX6_fill_56 : decode cX6_fill 56 = .ok (.getfield 35, 3) := by decide +kernel
theorem dX6_fill_59 : decode cX6_fill 59 = .ok (.aload_n 0, 1) := by decide +kernel
theorem dX6_fill_60 : decode cX6_fill 60 = .ok (.getfield 45, 3) := by decide +kernel
theorem dX6_fill_63 : decode cX6_fill 63 = .ok (.invokevirtual 132, 3) := by decide +kernel
theorem dX6_fill_66 : decode cX6_fill 66 = .ok (.aload_n 0, 1) := by decide +kernel
theorem dX6_fill_67 : decode cX6_fill 67 = .ok (.getfield 45, 3) := by decide +kernel
theorem dX6_fill_70 : decode cX6_fill 70 = .ok (.getfield 113, 3) := by decide +kernel
theorem dX6_fill_73 : decode cX6_fill 73 = .ok (.iload_n 1, 1) := by decide +kernel
theorem dX6_fill_74 : decode cX6_fill 74 = .ok (.iload_n 3, 1) := by decide +kernel
theorem dX6_fill_75 : decode cX6_fill 75 = .ok (.invokevirtual 84, 3) := by decide +kernel
theorem dX6_fill_78 : decode cX6_fill 78 = .ok (.iload_n 3, 1) := by decide +kernel
theorem dX6_fill_79 : decode cX6_fill 79 = .ok (.ireturn, 1) := by decide +kernel
set_option maxRecDepth 20000 in
theorem ggX6_light_X6_isMan : GoodIn wsX6_light wsX6_isMan := goodIn_r _ [7, 8, 56, 57, 58, 59, 60, 61, 62, 63, 64, 65, 66, 67, 73, 74, 75, 76, 77, 78, 79, 80, 81, 82, 83] (by decide +kernel) (by decide +kernel)
set_option maxRecDepth 20000 in
theorem gX6_light_X6_isMan : GoodIn wsX6_light (wsV RX6 103 RX6 yX6_isMan wsX6_isMan) := goodIn_app (goodIn_of _ (by decide +kernel)) ggX6_light_X6_isMan
set_option maxRecDepth 20000 in
theorem ggX6_light_X1_isLit : GoodIn wsX6_light wsX1_isLit := goodIn_r _ [13, 14, 68, 69, 70, 71, 72] (by decide +kernel) (by decide +kernel)
set_option maxRecDepth 20000 in
theorem gX6_light_X1_isLit : GoodIn wsX6_light (wsV RX6 116 RX1 yX1_isLit wsX1_isLit) := goodIn_app (goodIn_of _ (by decide +kernel)) ggX6_light_X1_isLit
set_option maxRecDepth 20000 in
theorem ggX6_light_X3_get : GoodIn wsX6_light wsX3_get := goodIn_r _ [19, 20, 84] (by decide +kernel) (by decide +kernel)
set_option maxRecDepth 20000 in
theorem gX6_light_X3_get : GoodIn wsX6_light (wsV RX6 109 RX3 yX3_get wsX3_get) := goodIn_app (goodIn_of _ (by decide +kernel)) ggX6_light_X3_get
set_option maxRecDepth 20000 in
theorem ggX6_light_X4_put : GoodIn wsX6_light wsX4_put := goodIn_r _ [25, 26, 27, 28, 29, 30, 24, 31, 32, 33, 34, 12, 35, 36, 37, 38, 14, 39, 40, 41, 42, 18, 43, 20, 44, 16, 17, 19, 85, 86, 68, 69, 70, 71, 72, 84] (by decide +kernel) (by decide +kernel)
set_option maxRecDepth 20000 in
theorem gX6_light_X4_put : GoodIn wsX6_light (wsV RX6 132 RX4 yX4_put wsX4_put) := goodIn_app (goodIn_of _ (by decide +kernel)) ggX6_light_X4_put
set_option maxRecDepth 20000 in
theorem ggX6_light_X1_litCount : GoodIn wsX6_light wsX1_litCount := goodIn_r _ [48, 14, 49, 50, 51, 52, 53, 54, 55, 68, 69, 70, 71, 72] (by decide +kernel) (by decide +kernel)
set_option maxRecDepth 20000 in
theorem gX6_light_X1_litCount : GoodIn wsX6_light (wsV RX6 139 RX1 yX1_litCount wsX1_litCount) := goodIn_app (goodIn_of _ (by decide +kernel)) ggX6_light_X1_litCount
theorem dX6_light_0 : decode cX6_light 0 = .ok (.aload_n 0, 1) := by decide +kernel
theorem dX6_light_1 : decode cX6_light 1 = .ok (.iload_n 1, 1) := by decide +kernel
theorem dX6_light_2 : decode cX6_light 2 = .ok (.invokevirtual 103, 3) := by decide +kernel
theorem dX6_light_5 : decode cX6_light 5 = .ok (.ifCond .ne 5, 3) := by decide +kernel
theorem dX6_light_8 : decode cX6_light 8 = .ok (.iconst (-1), 1) := by decide +kernel
theorem dX6_light_9 : decode cX6_light 9 = .ok (.ireturn, 1) := by decide +kernel
theorem dX6_light_10 : decode cX6_light 10 = .ok (.aload_n 0, 1) := by decide +kernel
theorem dX6_light_11 : decode cX6_light 11 = .ok (.getfield 45, 3) := by decide +kernel
theorem dX6_light_14 : decode cX6_light 14 = .ok (.iload_n 1, 1) := by decide +kernel
theorem dX6_light_15 : decode cX6_light 15 = .ok (.invokevirtual 116, 3) := by decide +kernel
theorem dX6_light_18 : decode cX6_light 18 = .ok (.ifCond .ne 17, 3) := by decide +kernel
theorem dX6_light_21 : decode cX6_light 21 = .ok (.aload_n 0, 1) := by decide +kernel
theorem dX6_light_22 : decode cX6_light 22 = .ok (.getfield 45, 3) := by decide +kernel
theorem dX6_light_25 : decode cX6_light 25 = .ok (.getfield 113, 3) := by decide +kernel
theorem dX6_light_28 : decode cX6_light 28 = .ok (.iload_n 1, 1) := by decide +kernel
theorem dX6_light_29 : decode cX6_light 29 = .ok (.invokevirtual 109, 3) := by decide +kernel
theorem dX6_light_32 : decode cX6_light 32 = .ok (.ifCond .ne 6, 3) := by decide +kernel
theorem dX6_light_35 : decode cX6_light 35 = .ok (.bipush (-2), 2) := by decide +kernel
theorem dX6_light_37 : decode cX6_light 37 = .ok (.ireturn, 1) := by decide +kernel
theorem dX6_light_38 : decode cX6_light 38 = .ok (.aload_n 0, 1) := by decide +kernel
theorem dX6_light_39 : decode cX6_light 39 = .ok (.getfield 35, 3) := by decide +kernel
theorem dX6_light_42 : decode cX6_light 42 = .ok (.aload_n 0, 1) := by decide +kernel
theorem dX6_light_43 : decode cX6_light 43 = .ok (.getfield 45, 3) := by decide +kernel
theorem dX6_light_46 : decode cX6_light 46 = .ok (.invokevirtual 132, 3) := by decide +kernel
theorem dX6_light_49 : decode cX6_light 49 = .ok (.aload_n 0, 1) := by decide +kernel
theorem dX6_light_50 : decode cX6_light 50 = .ok (.getfield 45, 3) := by decide +kernel
theorem dX6_light_53 : decode cX6_light 53 = .ok (.dup, 1) := by decide +kernel
theorem dX6_light_54 : decode cX6_light 54 = .ok (.getfield 136, 3) := by decide +kernel
theorem dX6_light_57 : decode cX6_light 57 = .ok (.iconst 1, 1) := by decide +kernel
theorem dX6_light_58 : decode cX6_light 58 = .ok (.iload_n 1, 1) := by decide +kernel
theorem dX6_light_59 : decode cX6_light 59 = .ok (.ishl, 1) := by decide +kernel
theorem dX6_light_60 : decode cX6_light 60 = .ok (.ior, 1) := by decide +kernel
theorem dX6_light_61 : decode cX6_light 61 = .ok (.putfield 136, 3) := by decide +kernel
theorem dX6_light_64 : decode cX6_light 64 = .ok (.aload_n 0, 1) := by decide +kernel
theorem dX6_light_65 : decode cX6_light 65 = .ok (.getfield 45, 3) := by decide +kernel
theorem dX6_light_68 : decode cX6_light 68 = .ok (.invokevirtual 139, 3) := by decide +kernel
theorem dX6_light_71 : decode cX6_light 71 = .ok (.ireturn, 1) := by decide +kernel
set_option maxRecDepth 20000 in
theorem ggX6_change_X6_isMan : GoodIn wsX6_change wsX6_isMan := goodIn_r _ [7, 8, 49, 50, 51, 52, 53, 54, 55, 56, 57, 58, 59, 60, 66, 67, 68, 69, 70, 71, 72, 73, 74, 75, 76] (by decide +kernel) (by decide +kernel)
set_option maxRecDepth 20000 in
theorem gX6_change_X6_isMan : GoodIn wsX6_change (wsV RX6 103 RX6 yX6_isMan wsX6_isMan) := goodIn_app (goodIn_of _ (by decide +kernel)) ggX6_change_X6_isMan
set_option maxRecDepth 20000 in
theorem ggX6_change_X4_put : GoodIn wsX6_change wsX4_put := goodIn_r _ [13, 14, 15, 16, 17, 18, 12, 19, 20, 21, 22, 23, 24, 25, 26, 27, 28, 29, 30, 31, 32, 33, 34, 35, 36, 37, 38, 39, 77, 78, 61, 62, 63, 64, 65, 79] (by decide +kernel) (by decide +kernel)
set_option maxRecDepth 20000 in
theorem gX6_change_X4_put : GoodIn wsX6_change (wsV RX6 132 RX4 yX4_put wsX4_put) := goodIn_app (goodIn_of _ (by decide +kernel)) ggX6_change_X4_put
set_option maxRecDepth 20000 in
theorem ggX6_change_X1_lanternAt : GoodIn wsX6_change wsX1_lanternAt := goodIn_r _ [43, 25, 26, 44, 37, 38, 33, 39, 35, 61, 62, 63, 64, 65, 79] (by decide +kernel) (by decide +kernel)
set_option maxRecDepth 20000 in
theorem gX6_change_X1_lanternAt : GoodIn wsX6_change (wsV RX6 125 RX1 yX1_lanternAt wsX1_lanternAt) := goodIn_app (goodIn_of _ (by decide +kernel)) ggX6_change_X1_lanternAt
set_option maxRecDepth 20000 in
theorem ggX6_change_X3_set : GoodIn wsX6_change wsX3_set := goodIn_r _ [48, 35, 79] (by decide +kernel) (by decide +kernel)
set_option maxRecDepth 20000 in
theorem gX6_change_X3_set : GoodIn wsX6_change (wsV RX6 84 RX3 yX3_set wsX3_set) := goodIn_app (goodIn_of _ (by decide +kernel)) ggX6_change_X3_set
theorem dX6_change_0 : decode cX6_change 0 = .ok (.aload_n 0, 1) := by decide +kernel
theorem dX6_change_1 : decode cX6_change 1 = .ok (.iload_n 1, 1) := by decide +kernel
theorem dX6_change_2 : decode cX6_change 2 = .ok (.invokevirtual 103, 3) := by decide +kernel
theorem dX6_change_5 : decode cX6_change 5 = .ok (.ifCond .eq 16, 3) := by decide +kernel
theorem dX6_change_8 : decode cX6_change 8 = .ok (.aload_n 0, 1) := by decide +kernel
theorem dX6_change_9 : decode cX6_change 9 = .ok (.iload_n 2, 1) := by decide +kernel
theorem dX6_change_10 : decode cX6_change 10 = .ok (.invokevirtual 103, 3) := by decide +kernel
theorem dX6_change_13 : decode cX6_change 13 = .ok (.ifCond .eq 8, 3) := by decide +kernel
theorem dX6_change_16 : decode cX6_change 16 = .ok (.iload_n 1, 1) := by decide +kernel
theorem dX6_change_17 : decode cX6_change 17 = .ok (.iload_n 2, 1) := by decide +kernel
theorem dX6_change_18 : decode cX6_change 18 = .ok (.if_icmp .ne 5, 3) := by decide +kernel
theorem dX6_change_21 : decode cX6_change 21 = .ok (.iconst (-1), 1) := by decide +kernel
theorem dX6_change_22 : decode cX6_change 22 = .ok (.ireturn, 1) := by decide +kernel
theorem dX6_change_23 : decode cX6_change 23 = .ok (.aload_n 0, 1) := by decide +kernel
theorem dX6_change_24 : decode cX6_change 24 = .ok (.getfield 35, 3) := by decide +kernel
theorem dX6_change_27 : decode cX6_change 27 = .ok (.aload_n 0, 1) := by decide +kernel
theorem dX6_change_28 : decode cX6_change 28 = .ok (.getfield 45, 3) := by decide +kernel
theorem dX6_change_31 : decode cX6_change 31 = .ok (.invokevirtual 132, 3) := by decide +kernel
theorem dX6_change_34 : decode cX6_change 34 = .ok (.aload_n 0, 1) := by decide +kernel
theorem dX6_change_35 : decode cX6_change 35 = .ok (.getfield 45, 3) := by decide +kernel
theorem dX6_change_38 : decode cX6_change 38 = .ok (.iload_n 1, 1) := by decide +kernel
theorem dX6_change_39 : decode cX6_change 39 = .ok (.invokevirtual 125, 3) := by decide +kernel
theorem dX6_change_42 : decode cX6_change 42 = .ok (.istore_n 3, 1) := by decide +kernel
theorem dX6_change_43 : decode cX6_change 43 = .ok (.aload_n 0, 1) := by decide +kernel
theorem dX6_change_44 : decode cX6_change 44 = .ok (.getfield 45, 3) := by decide +kernel
theorem dX6_change_47 : decode cX6_change 47 = .ok (.iload_n 2, 1) := by decide +kernel
theorem dX6_change_48 : decode cX6_change 48 = .ok (.invokevirtual 125, 3) := by decide +kernel
theorem dX6_change_51 : decode cX6_change 51 = .ok (.istore 4, 2) := by decide +kernel
theorem dX6_change_53 : decode cX6_change 53 = .ok (.aload_n 0, 1) := by decide +kernel
theorem dX6_change_54 : decode cX6_change 54 = .ok (.getfield 45, 3) := by decide +kernel
theorem dX6_change_57 : decode cX6_change 57 = .ok (.getfield 106, 3) := by decide +kernel
theorem dX6_change_60 : decode cX6_change 60 = .ok (.iload_n 3, 1) := by decide +kernel
theorem dX6_change_61 : decode cX6_change 61 = .ok (.iload_n 2, 1) := by decide +kernel
theorem dX6_change_62 : decode cX6_change 62 = .ok (.invokevirtual 84, 3) := by decide +kernel
theorem dX6_change_65 : decode cX6_change 65 = .ok (.aload_n 0, 1) := by decide +kernel
theorem dX6_change_66 : decode cX6_change 66 = .ok (.getfield 45, 3) := by decide +kernel
theorem dX6_change_69 : decode cX6_change 69 = .ok (.getfield 106, 3) := by decide +kernel
theorem dX6_change_72 : decode cX6_change 72 = .ok (.iload 4, 2) := by decide +kernel
theorem dX6_change_74 : decode cX6_change 74 = .ok (.iload_n 1, 1) := by decide +kernel
theorem dX6_change_75 : decode cX6_change 75 = .ok (.invokevirtual 84, 3) := by decide +kernel
theorem dX6_change_78 : decode cX6_change 78 = .ok (.iload 4, 2) := by decide +kernel
theorem dX6_change_80 : decode cX6_change 80 = .ok (.ireturn, 1) := by decide +kernel
set_option maxRecDepth 20000 in
theorem ggX6_bells_X4_put : GoodIn wsX6_bells wsX4_put := goodIn_r _ [9, 10, 11, 12, 13, 14, 8, 15, 16, 17, 18, 19, 20, 21, 22, 23, 24, 25, 26, 27, 28, 29, 30, 31, 32, 33, 34, 35, 101, 102, 96, 97, 98, 99, 100, 103] (by decide +kernel) (by decide +kernel)
set_option maxRecDepth 20000 in
theorem gX6_bells_X4_put : GoodIn wsX6_bells (wsV RX6 132 RX4 yX4_put wsX4_put) := goodIn_app (goodIn_of _ (by decide +kernel)) ggX6_bells_X4_put
set_option maxRecDepth 20000 in
theorem ggX6_bells_X5_reckonDraughts : GoodIn wsX6_bells wsX5_reckonDraughts := goodIn_r _ [40, 41, 42, 43, 44, 45, 46, 47, 48, 49, 50, 51, 52, 29, 53, 31, 54, 33, 34, 35, 55, 56, 57, 39, 58, 59, 60, 61, 62, 63, 64, 65, 66, 67, 104, 105, 106, 107, 108, 109, 110, 111, 112, 113, 114, 103] (by decide +kernel) (by decide +kernel)
set_option maxRecDepth 20000 in
theorem gX6_bells_X5_reckonDraughts : GoodIn wsX6_bells (wsV RX6 146 RX5 yX5_reckonDraughts wsX5_reckonDraughts) := goodIn_app (goodIn_of _ (by decide +kernel)) ggX6_bells_X5_reckonDraughts
set_option maxRecDepth 20000 in
theorem ggX6_bells_X1_goOn : GoodIn wsX6_bells wsX1_goOn := goodIn_r _ [71, 21, 22, 23, 72, 47, 48, 49, 24, 25, 73, 33, 34, 29, 35, 31, 74, 75, 76, 19, 77, 78, 79, 80, 81, 82, 51, 52, 53, 83, 61, 62, 39, 63, 41, 64, 65, 66, 67, 96, 97, 98, 99, 100, 104, 105, 106, 107, 108, 109, 110, 111, 112, 113, 114, 103] (by decide +kernel) (by decide +kernel)
set_option maxRecDepth 20000 in
theorem gX6_bells_X1_goOn : GoodIn wsX6_bells (wsV RX6 150 RX1 yX1_goOn wsX1_goOn) := goodIn_app (goodIn_of _ (by decide +kernel)) ggX6_bells_X1_goOn
theorem dX6_bells_0 : decode cX6_bells 0 = .ok (.iload_n 1, 1) := by decide +kernel
theorem dX6_bells_1 : decode cX6_bells 1 = .ok (.iconst 1, 1) := by decide +kernel
theorem dX6_bells_2 : decode cX6_bells 2 = .ok (.if_icmp .lt 9, 3) := by decide +kernel
theorem dX6_bells_5 : decode cX6_bells 5 = .ok (.iload_n 1, 1) := by decide +kernel
theorem dX6_bells_6 : decode cX6_bells 6 = .ok (.bipush 99, 2) := by decide +kernel
theorem dX6_bells_8 : decode cX6_bells 8 = .ok (.if_icmp .le 5, 3) := by decide +kernel
theorem dX6_bells_11 : decode cX6_bells 11 = .ok (.iconst (-1), 1) := by decide +kernel
theorem dX6_bells_12 : decode cX6_bells 12 = .ok (.ireturn, 1) := by decide +kernel
theorem dX6_bells_13 : decode cX6_bells 13 = .ok (.aload_n 0, 1) := by decide +kernel
theorem dX6_bells_14 : decode cX6_bells 14 = .ok (.getfield 45, 3) := by decide +kernel
theorem dX6_bells_17 : decode cX6_bells 17 = .ok (.getfield 143, 3) := by decide +kernel
theorem dX6_bells_20 : decode cX6_bells 20 = .ok (.iload_n 1, 1) := by decide +kernel
theorem dX6_bells_21 : decode cX6_bells 21 = .ok (.iadd, 1) := by decide +kernel
theorem dX6_bells_22 : decode cX6_bells 22 = .ok (.sipush 9999, 3) := by decide +kernel
theorem dX6_bells_25 : decode cX6_bells 25 = .ok (.if_icmp .le 6, 3) := by decide +kernel
theorem dX6_bells_28 : decode cX6_bells 28 = .ok (.bipush (-2), 2) := by decide +kernel
theorem dX6_bells_30 : decode cX6_bells 30 = .ok (.ireturn, 1) := by decide +kernel
theorem dX6_bells_31 : decode cX6_bells 31 = .ok (.aload_n 0, 1) := by decide +kernel
theorem dX6_bells_32 : decode cX6_bells 32 = .ok (.getfield 35, 3) := by decide +kernel
theorem dX6_bells_35 : decode cX6_bells 35 = .ok (.aload_n 0, 1) := by decide +kernel
theorem dX6_bells_36 : decode cX6_bells 36 = .ok (.getfield 45, 3) := by decide +kernel
theorem dX6_bells_39 : decode cX6_bells 39 = .ok (.invokevirtual 132, 3) := by decide +kernel
theorem dX6_bells_42 : decode cX6_bells 42 = .ok (.aload_n 0, 1) := by decide +kernel
theorem dX6_bells_43 : decode cX6_bells 43 = .ok (.getfield 61, 3) := by decide +kernel
theorem dX6_bells_46 : decode cX6_bells 46 = .ok (.aload_n 0, 1) := by decide +kernel
theorem dX6_bells_47 : decode cX6_bells 47 = .ok (.getfield 45, 3) := by decide +kernel
theorem dX6_bells_50 : decode cX6_bells 50 = .ok (.getfield 143, 3) := by decide +kernel
theorem dX6_bells_53 : decode cX6_bells 53 = .ok (.aload_n 0, 1) := by decide +kernel
theorem dX6_bells_54 : decode cX6_bells 54 = .ok (.getfield 52, 3) := by decide +kernel
theorem dX6_bells_57 : decode cX6_bells 57 = .ok (.invokevirtual 146, 3) := by decide +kernel
theorem dX6_bells_60 : decode cX6_bells 60 = .ok (.aload_n 0, 1) := by decide +kernel
theorem dX6_bells_61 : decode cX6_bells 61 = .ok (.getfield 45, 3) := by decide +kernel
theorem dX6_bells_64 : decode cX6_bells 64 = .ok (.aload_n 0, 1) := by decide +kernel
theorem dX6_bells_65 : decode cX6_bells 65 = .ok (.getfield 61, 3) := by decide +kernel
theorem dX6_bells_68 : decode cX6_bells 68 = .ok (.iload_n 1, 1) := by decide +kernel
theorem dX6_bells_69 : decode cX6_bells 69 = .ok (.aload_n 0, 1) := by decide +kernel
theorem dX6_bells_70 : decode cX6_bells 70 = .ok (.getfield 52, 3) := by decide +kernel
theorem dX6_bells_73 : decode cX6_bells 73 = .ok (.invokevirtual 150, 3) := by decide +kernel
theorem dX6_bells_76 : decode cX6_bells 76 = .ok (.aload_n 0, 1) := by decide +kernel
theorem dX6_bells_77 : decode cX6_bells 77 = .ok (.getfield 45, 3) := by decide +kernel
theorem dX6_bells_80 : decode cX6_bells 80 = .ok (.getfield 143, 3) := by decide +kernel
theorem dX6_bells_83 : decode cX6_bells 83 = .ok (.ireturn, 1) := by decide +kernel
set_option maxRecDepth 20000 in
theorem ggX6_undo_X4_takeLast : GoodIn wsX6_undo wsX4_takeLast := goodIn_r _ [7, 8, 9, 10, 11, 12, 13, 14, 15, 16, 17, 18, 19, 20, 21, 22, 23, 24, 25, 26, 27, 28, 29, 42, 43, 44, 45, 46, 47, 48, 49] (by decide +kernel) (by decide +kernel)
set_option maxRecDepth 20000 in
theorem gX6_undo_X4_takeLast : GoodIn wsX6_undo (wsV RX6 154 RX4 yX4_takeLast wsX4_takeLast) := goodIn_app (goodIn_of _ (by decide +kernel)) ggX6_undo_X4_takeLast
theorem dX6_undo_0 : decode cX6_undo 0 = .ok (.aload_n 0, 1) := by decide +kernel
theorem dX6_undo_1 : decode cX6_undo 1 = .ok (.getfield 35, 3) := by decide +kernel
theorem dX6_undo_4 : decode cX6_undo 4 = .ok (.aload_n 0, 1) := by decide +kernel
theorem dX6_undo_5 : decode cX6_undo 5 = .ok (.getfield 45, 3) := by decide +kernel
theorem dX6_undo_8 : decode cX6_undo 8 = .ok (.invokevirtual 154, 3) := by decide +kernel
theorem dX6_undo_11 : decode cX6_undo 11 = .ok (.ifCond .eq 13, 3) := by decide +kernel
theorem dX6_undo_14 : decode cX6_undo 14 = .ok (.aload_n 0, 1) := by decide +kernel
theorem dX6_undo_15 : decode cX6_undo 15 = .ok (.getfield 35, 3) := by decide +kernel
theorem dX6_undo_18 : decode cX6_undo 18 = .ok (.getfield 158, 3) := by decide +kernel
theorem dX6_undo_21 : decode cX6_undo 21 = .ok (.goto 5, 3) := by decide +kernel
theorem dX6_undo_24 : decode cX6_undo 24 = .ok (.bipush (-2), 2) := by decide +kernel
theorem dX6_undo_26 : decode cX6_undo 26 = .ok (.ireturn, 1) := by decide +kernel
set_option maxRecDepth 20000 in
theorem ggX6_warm_X6_isLastBell : GoodIn wsX6_warm wsX6_isLastBell := goodIn_r _ [7] (by decide +kernel) (by decide +kernel)
set_option maxRecDepth 20000 in
theorem gX6_warm_X6_isLastBell : GoodIn wsX6_warm (va_wsS RX6 161 yX6_isLastBell wsX6_isLastBell) := goodIn_app (goodIn_of _ (by decide +kernel)) ggX6_warm_X6_isLastBell
set_option maxRecDepth 20000 in
theorem ggX6_warm_X6_isMan : GoodIn wsX6_warm wsX6_isMan := goodIn_r _ [11, 1, 80, 81, 82, 83, 84, 85, 86, 87, 88, 89, 90, 91, 97, 98, 99, 100, 101, 102, 103, 104, 105, 106, 107] (by decide +kernel) (by decide +kernel)
set_option maxRecDepth 20000 in
theorem gX6_warm_X6_isMan : GoodIn wsX6_warm (wsV RX6 103 RX6 yX6_isMan wsX6_isMan) := goodIn_app (goodIn_of _ (by decide +kernel)) ggX6_warm_X6_isMan
set_option maxRecDepth 20000 in
theorem ggX6_warm_X5_reckonDraughts : GoodIn wsX6_warm wsX5_reckonDraughts := goodIn_r _ [16, 17, 18, 19, 20, 21, 22, 23, 24, 25, 26, 27, 28, 29, 30, 31, 32, 33, 34, 35, 36, 37, 38, 15, 39, 40, 41, 42, 43, 44, 45, 46, 47, 48, 97, 98, 99, 100, 101, 102, 103, 104, 105, 106, 107, 108] (by decide +kernel) (by decide +kernel)
set_option maxRecDepth 20000 in
theorem gX6_warm_X5_reckonDraughts : GoodIn wsX6_warm (wsV RX6 146 RX5 yX5_reckonDraughts wsX5_reckonDraughts) := goodIn_app (goodIn_of _ (by decide +kernel)) ggX6_warm_X5_reckonDraughts
set_option maxRecDepth 20000 in
theorem ggX6_warm_X6_isLitBehind : GoodIn wsX6_warm wsX6_isLitBehind := goodIn_r _ [52, 1, 2, 3, 53, 37, 38, 15, 39, 40, 41, 42, 43, 44, 17, 45, 46, 47, 48, 54, 55, 56, 57, 58, 59, 60, 61, 33, 34, 29, 35, 31, 62, 63, 64, 65, 66, 67, 68, 23, 24, 25, 69, 70, 71, 72, 73, 80, 81, 82, 83, 84, 85, 86, 87, 88, 89, 90, 91, 97, 98, 99, 100, 101, 102, 103, 104, 105, 106, 107, 92, 93, 94, 95, 96, 108] (by decide +kernel) (by decide +kernel)
set_option maxRecDepth 20000 in
theorem gX6_warm_X6_isLitBehind : GoodIn wsX6_warm (wsV RX6 164 RX6 yX6_isLitBehind wsX6_isLitBehind) := goodIn_app (goodIn_of _ (by decide +kernel)) ggX6_warm_X6_isLitBehind
set_option maxRecDepth 20000 in
theorem ggX6_warm_X3_get : GoodIn wsX6_warm wsX3_get := goodIn_r _ [35, 31, 108] (by decide +kernel) (by decide +kernel)
set_option maxRecDepth 20000 in
theorem gX6_warm_X3_get : GoodIn wsX6_warm (wsV RX6 109 RX3 yX3_get wsX3_get) := goodIn_app (goodIn_of _ (by decide +kernel)) ggX6_warm_X3_get
set_option maxRecDepth 20000 in
theorem ggX6_warm_X5_isWarm : GoodIn wsX6_warm wsX5_isWarm := goodIn_r _ [77, 78, 79, 97, 98, 99, 100, 101, 102, 103, 104, 105, 106, 107] (by decide +kernel) (by decide +kernel)
set_option maxRecDepth 20000 in
theorem gX6_warm_X5_isWarm : GoodIn wsX6_warm (wsV RX6 168 RX5 yX5_isWarm wsX5_isWarm) := goodIn_app (goodIn_of _ (by decide +kernel)) ggX6_warm_X5_isWarm
theorem dX6_warm_0 : decode cX6_warm 0 = .ok (.iload_n 1, 1) := by decide +kernel
theorem dX6_warm_1 : decode cX6_warm 1 = .ok (.invokestatic 161, 3) := by decide +kernel
theorem dX6_warm_4 : decode cX6_warm 4 = .ok (.ifCond .eq 11, 3) := by decide +kernel
theorem dX6_warm_7 : decode cX6_warm 7 = .ok (.aload_n 0, 1) := by decide +kernel
theorem dX6_warm_8 : decode cX6_warm 8 = .ok (.iload_n 2, 1) := by decide +kernel
theorem dX6_warm_9 : decode cX6_warm 9 = .ok (.invokevirtual 103, 3) := by decide +kernel
theorem dX6_warm_12 : decode cX6_warm 12 = .ok (.ifCond .ne 5, 3) := by decide +kernel
theorem dX6_warm_15 : decode cX6_warm 15 = .ok (.iconst (-1), 1) := by decide +kernel
theorem dX6_warm_16 : decode cX6_warm 16 = .ok (.ireturn, 1) := by decide +kernel
theorem dX6_warm_17 : decode cX6_warm 17 = .ok (.aload_n 0, 1) := by decide +kernel
theorem dX6_warm_18 : decode cX6_warm 18 = .ok (.getfield 61, 3) := by decide +kernel
theorem dX6_warm_21 : decode cX6_warm 21 = .ok (.aload_n 0, 1) := by decide +kernel
theorem dX6_warm_22 : decode cX6_warm 22 = .ok (.getfield 45, 3) := by decide +kernel
theorem dX6_warm_25 : decode cX6_warm 25 = .ok (.getfield 143, 3) := by decide +kernel
theorem dX6_warm_28 : decode cX6_warm 28 = .ok (.aload_n 0, 1) := by decide +kernel
theorem dX6_warm_29 : decode cX6_warm 29 = .ok (.getfield 52, 3) := by decide +kernel
theorem dX6_warm_32 : decode cX6_warm 32 = .ok (.invokevirtual 146, 3) := by decide +kernel
theorem dX6_warm_35 : decode cX6_warm 35 = .ok (.aload_n 0, 1) := by decide +kernel
theorem dX6_warm_36 : decode cX6_warm 36 = .ok (.iload_n 1, 1) := by decide +kernel
theorem dX6_warm_37 : decode cX6_warm 37 = .ok (.iload_n 2, 1) := by decide +kernel
theorem dX6_warm_38 : decode cX6_warm 38 = .ok (.invokevirtual 164, 3) := by decide +kernel
theorem dX6_warm_41 : decode cX6_warm 41 = .ok (.istore_n 3, 1) := by decide +kernel
theorem dX6_warm_42 : decode cX6_warm 42 = .ok (.aload_n 0, 1) := by decide +kernel
theorem dX6_warm_43 : decode cX6_warm 43 = .ok (.getfield 61, 3) := by decide +kernel
theorem dX6_warm_46 : decode cX6_warm 46 = .ok (.aload_n 0, 1) := by decide +kernel
theorem dX6_warm_47 : decode cX6_warm 47 = .ok (.getfield 61, 3) := by decide +kernel
theorem dX6_warm_50 : decode cX6_warm 50 = .ok (.getfield 122, 3) := by decide +kernel
theorem dX6_warm_53 : decode cX6_warm 53 = .ok (.iload_n 2, 1) := by decide +kernel
theorem dX6_warm_54 : decode cX6_warm 54 = .ok (.invokevirtual 109, 3) := by decide +kernel
theorem dX6_warm_57 : decode cX6_warm 57 = .ok (.iload_n 3, 1) := by decide +kernel
theorem dX6_warm_58 : decode cX6_warm 58 = .ok (.aload_n 0, 1) := by decide +kernel
theorem dX6_warm_59 : decode cX6_warm 59 = .ok (.getfield 45, 3) := by decide +kernel
theorem dX6_warm_62 : decode cX6_warm 62 = .ok (.getfield 143, 3) := by decide +kernel
theorem dX6_warm_65 : decode cX6_warm 65 = .ok (.iload_n 1, 1) := by decide +kernel
theorem dX6_warm_66 : decode cX6_warm 66 = .ok (.iadd, 1) := by decide +kernel
theorem dX6_warm_67 : decode cX6_warm 67 = .ok (.invokevirtual 168, 3) := by decide +kernel
theorem dX6_warm_70 : decode cX6_warm 70 = .ok (.ifCond .eq 7, 3) := by decide +kernel
theorem dX6_warm_73 : decode cX6_warm 73 = .ok (.iconst 1, 1) := by decide +kernel
theorem dX6_warm_74 : decode cX6_warm 74 = .ok (.goto 4, 3) := by decide +kernel
theorem dX6_warm_77 : decode cX6_warm 77 = .ok (.iconst 0, 1) := by decide +kernel
theorem dX6_warm_78 : decode cX6_warm 78 = .ok (.ireturn, 1) := by decide +kernel
set_option maxRecDepth 20000 in
theorem ggX6_dark_X6_isLastBell : GoodIn wsX6_dark wsX6_isLastBell := goodIn_r _ [7] (by decide +kernel) (by decide +kernel)
set_option maxRecDepth 20000 in
theorem gX6_dark_X6_isLastBell : GoodIn wsX6_dark (va_wsS RX6 161 yX6_isLastBell wsX6_isLastBell) := goodIn_app (goodIn_of _ (by decide +kernel)) ggX6_dark_X6_isLastBell
set_option maxRecDepth 20000 in
theorem ggX6_dark_X5_reckonDraughts : GoodIn wsX6_dark wsX5_reckonDraughts := goodIn_r _ [12, 13, 14, 15, 16, 17, 18, 19, 20, 21, 22, 23, 24, 25, 26, 27, 28, 29, 30, 31, 32, 33, 34, 11, 35, 36, 37, 38, 39, 40, 41, 42, 43, 44, 87, 88, 89, 90, 91, 92, 93, 94, 95, 96, 97, 98] (by decide +kernel) (by decide +kernel)
set_option maxRecDepth 20000 in
theorem gX6_dark_X5_reckonDraughts : GoodIn wsX6_dark (wsV RX6 146 RX5 yX5_reckonDraughts wsX5_reckonDraughts) := goodIn_app (goodIn_of _ (by decide +kernel)) ggX6_dark_X5_reckonDraughts
set_option maxRecDepth 20000 in
theorem ggX6_dark_X6_isLitBehind : GoodIn wsX6_dark wsX6_isLitBehind := goodIn_r _ [48, 1, 2, 3, 49, 33, 34, 11, 35, 36, 37, 38, 39, 40, 13, 41, 42, 43, 44, 50, 51, 52, 53, 54, 55, 56, 57, 29, 30, 25, 31, 27, 58, 59, 60, 61, 62, 63, 64, 19, 20, 21, 65, 66, 67, 68, 69, 70, 71, 72, 73, 74, 75, 76, 77, 78, 79, 80, 81, 87, 88, 89, 90, 91, 92, 93, 94, 95, 96, 97, 82, 83, 84, 85, 86, 98] (by decide +kernel) (by decide +kernel)
set_option maxRecDepth 20000 in
theorem gX6_dark_X6_isLitBehind : GoodIn wsX6_dark (wsV RX6 164 RX6 yX6_isLitBehind wsX6_isLitBehind) := goodIn_app (goodIn_of _ (by decide +kernel)) ggX6_dark_X6_isLitBehind
theorem dX6_dark_0 : decode cX6_dark 0 = .ok (.iload_n 1, 1) := by decide +kernel
theorem dX6_dark_1 : decode cX6_dark 1 = .ok (.invokestatic 161, 3) := by decide +kernel
theorem dX6_dark_4 : decode cX6_dark 4 = .ok (.ifCond .ne 5, 3) := by decide +kernel
theorem dX6_dark_7 : decode cX6_dark 7 = .ok (.iconst (-1), 1) := by decide +kernel
theorem dX6_dark_8 : decode cX6_dark 8 = .ok (.ireturn, 1) := by decide +kernel
theorem dX6_dark_9 : decode cX6_dark 9 = .ok (.aload_n 0, 1) := by decide +kernel
theorem dX6_dark_10 : decode cX6_dark 10 = .ok (.getfield 61, 3) := by decide +kernel
theorem dX6_dark_13 : decode cX6_dark 13 = .ok (.aload_n 0, 1) := by decide +kernel
theorem dX6_dark_14 : decode cX6_dark 14 = .ok (.getfield 45, 3) := by decide +kernel
theorem dX6_dark_17 : decode cX6_dark 17 = .ok (.getfield 143, 3) := by decide +kernel
theorem dX6_dark_20 : decode cX6_dark 20 = .ok (.aload_n 0, 1) := by decide +kernel
theorem dX6_dark_21 : decode cX6_dark 21 = .ok (.getfield 52, 3) := by decide +kernel
theorem dX6_dark_24 : decode cX6_dark 24 = .ok (.invokevirtual 146, 3) := by decide +kernel
theorem dX6_dark_27 : decode cX6_dark 27 = .ok (.iconst 0, 1) := by decide +kernel
theorem dX6_dark_28 : decode cX6_dark 28 = .ok (.istore_n 2, 1) := by decide +kernel
theorem dX6_dark_29 : decode cX6_dark 29 = .ok (.iconst 0, 1) := by decide +kernel
theorem dX6_dark_30 : decode cX6_dark 30 = .ok (.istore_n 3, 1) := by decide +kernel
theorem dX6_dark_31 : decode cX6_dark 31 = .ok (.iload_n 3, 1) := by decide +kernel
theorem dX6_dark_32 : decode cX6_dark 32 = .ok (.aload_n 0, 1) := by decide +kernel
theorem dX6_dark_33 : decode cX6_dark 33 = .ok (.getfield 61, 3) := by decide +kernel
theorem dX6_dark_36 : decode cX6_dark 36 = .ok (.getfield 100, 3) := by decide +kernel
theorem dX6_dark_39 : decode cX6_dark 39 = .ok (.if_icmp .ge 24, 3) := by decide +kernel
theorem dX6_dark_42 : decode cX6_dark 42 = .ok (.aload_n 0, 1) := by decide +kernel
theorem dX6_dark_43 : decode cX6_dark 43 = .ok (.iload_n 1, 1) := by decide +kernel
theorem dX6_dark_44 : decode cX6_dark 44 = .ok (.iload_n 3, 1) := by decide +kernel
theorem dX6_dark_45 : decode cX6_dark 45 = .ok (.invokevirtual 164, 3) := by decide +kernel
theorem dX6_dark_48 : decode cX6_dark 48 = .ok (.ifCond .ne 9, 3) := by decide +kernel
theorem dX6_dark_51 : decode cX6_dark 51 = .ok (.iload_n 2, 1) := by decide +kernel
theorem dX6_dark_52 : decode cX6_dark 52 = .ok (.iconst 1, 1) := by decide +kernel
theorem dX6_dark_53 : decode cX6_dark 53 = .ok (.iload_n 3, 1) := by decide +kernel
theorem dX6_dark_54 : decode cX6_dark 54 = .ok (.ishl, 1) := by decide +kernel
theorem dX6_dark_55 : decode cX6_dark 55 = .ok (.ior, 1) := by decide +kernel
theorem dX6_dark_56 : decode cX6_dark 56 = .ok (.istore_n 2, 1) := by decide +kernel
theorem dX6_dark_57 : decode cX6_dark 57 = .ok (.iinc 3 1, 3) := by decide +kernel
theorem dX6_dark_60 : decode cX6_dark 60 = .ok (.goto (-29), 3) := by decide +kernel
theorem dX6_dark_63 : decode cX6_dark 63 = .ok (.iload_n 2, 1) := by decide +kernel
theorem dX6_dark_64 : decode cX6_dark 64 = .ok (.ireturn, 1) := by decide +kernel
set_option maxRecDepth 20000 in
theorem ggX6_walk_X6_isMan : GoodIn wsX6_walk wsX6_isMan := goodIn_r _ [8, 1, 75, 76, 77, 78, 79, 80, 81, 82, 83, 84, 85, 86, 92, 93, 94, 95, 96, 97, 98, 99, 100, 101, 102] (by decide +kernel) (by decide +kernel)
set_option maxRecDepth 20000 in
theorem gX6_walk_X6_isMan : GoodIn wsX6_walk (wsV RX6 103 RX6 yX6_isMan wsX6_isMan) := goodIn_app (goodIn_of _ (by decide +kernel)) ggX6_walk_X6_isMan
set_option maxRecDepth 20000 in
theorem ggX6_walk_X6_isLastBell : GoodIn wsX6_walk wsX6_isLastBell := goodIn_r _ [11] (by decide +kernel) (by decide +kernel)
set_option maxRecDepth 20000 in
theorem gX6_walk_X6_isLastBell : GoodIn wsX6_walk (va_wsS RX6 161 yX6_isLastBell wsX6_isLastBell) := goodIn_app (goodIn_of _ (by decide +kernel)) ggX6_walk_X6_isLastBell
set_option maxRecDepth 20000 in
theorem ggX6_walk_X5_reckonDraughts : GoodIn wsX6_walk wsX5_reckonDraughts := goodIn_r _ [16, 17, 18, 19, 20, 21, 22, 23, 24, 25, 26, 27, 28, 29, 30, 31, 32, 33, 34, 35, 36, 37, 38, 15, 39, 40, 41, 42, 43, 44, 45, 46, 47, 48, 92, 93, 94, 95, 96, 97, 98, 99, 100, 101, 102, 103] (by decide +kernel) (by decide +kernel)
set_option maxRecDepth 20000 in
theorem gX6_walk_X5_reckonDraughts : GoodIn wsX6_walk (wsV RX6 146 RX5 yX5_reckonDraughts wsX5_reckonDraughts) := goodIn_app (goodIn_of _ (by decide +kernel)) ggX6_walk_X5_reckonDraughts
set_option maxRecDepth 20000 in
theorem ggX6_walk_X5_round : GoodIn wsX6_walk wsX5_round := goodIn_r _ [44, 17, 45, 46, 47, 48, 92, 93, 94, 95, 96, 97, 98, 99, 100, 101, 102] (by decide +kernel) (by decide +kernel)
set_option maxRecDepth 20000 in
theorem gX6_walk_X5_round : GoodIn wsX6_walk (wsV RX6 172 RX5 yX5_round wsX5_round) := goodIn_app (goodIn_of _ (by decide +kernel)) ggX6_walk_X5_round
set_option maxRecDepth 20000 in
theorem ggX6_walk_X6_isLitBehind : GoodIn wsX6_walk wsX6_isLitBehind := goodIn_r _ [53, 1, 2, 3, 54, 37, 38, 15, 39, 40, 41, 42, 43, 44, 17, 45, 46, 47, 48, 55, 56, 57, 58, 59, 60, 61, 62, 33, 34, 29, 35, 31, 63, 64, 65, 66, 67, 68, 69, 23, 24, 25, 70, 71, 72, 73, 74, 75, 76, 77, 78, 79, 80, 81, 82, 83, 84, 85, 86, 92, 93, 94, 95, 96, 97, 98, 99, 100, 101, 102, 87, 88, 89, 90, 91, 103] (by decide +kernel) (by decide +kernel)
set_option maxRecDepth 20000 in
theorem gX6_walk_X6_isLitBehind : GoodIn wsX6_walk (wsV RX6 164 RX6 yX6_isLitBehind wsX6_isLitBehind) := goodIn_app (goodIn_of _ (by decide +kernel)) ggX6_walk_X6_isLitBehind
theorem dX6_walk_0 : decode cX6_walk 0 = .ok (.aload_n 0, 1) := by decide +kernel
theorem dX6_walk_1 : decode cX6_walk 1 = .ok (.iload_n 1, 1) := by decide +kernel
theorem dX6_walk_2 : decode cX6_walk 2 = .ok (.invokevirtual 103, 3) := by decide +kernel
theorem dX6_walk_5 : decode cX6_walk 5 = .ok (.ifCond .eq 10, 3) := by decide +kernel
theorem dX6_walk_8 : decode cX6_walk 8 = .ok (.iload_n 2, 1) := by decide +kernel
theorem dX6_walk_9 : decode cX6_walk 9 = .ok (.invokestatic 161, 3) := by decide +kernel
theorem dX6_walk_12 : decode cX6_walk 12 = .ok (.ifCond .ne 5, 3) := by decide +kernel
theorem dX6_walk_15 : decode cX6_walk 15 = .ok (.iconst (-1), 1) := by decide +kernel
theorem dX6_walk_16 : decode cX6_walk 16 = .ok (.ireturn, 1) := by decide +kernel
theorem dX6_walk_17 : decode cX6_walk 17 = .ok (.aload_n 0, 1) := by decide +kernel
theorem dX6_walk_18 : decode cX6_walk 18 = .ok (.getfield 61, 3) := by decide +kernel
theorem dX6_walk_21 : decode cX6_walk 21 = .ok (.aload_n 0, 1) := by decide +kernel
theorem dX6_walk_22 : decode cX6_walk 22 = .ok (.getfield 45, 3) := by decide +kernel
theorem dX6_walk_25 : decode cX6_walk 25 = .ok (.getfield 143, 3) := by decide +kernel
theorem dX6_walk_28 : decode cX6_walk 28 = .ok (.aload_n 0, 1) := by decide +kernel
theorem dX6_walk_29 : decode cX6_walk 29 = .ok (.getfield 52, 3) := by decide +kernel
theorem dX6_walk_32 : decode cX6_walk 32 = .ok (.invokevirtual 146, 3) := by decide +kernel
theorem dX6_walk_35 : decode cX6_walk 35 = .ok (.iconst 0, 1) := by decide +kernel
theorem dX6_walk_36 : decode cX6_walk 36 = .ok (.istore_n 3, 1) := by decide +kernel
theorem dX6_walk_37 : decode cX6_walk 37 = .ok (.iconst 0, 1) := by decide +kernel
theorem dX6_walk_38 : decode cX6_walk 38 = .ok (.istore 4, 2) := by decide +kernel
theorem dX6_walk_40 : decode cX6_walk 40 = .ok (.iload 4, 2) := by decide +kernel
theorem dX6_walk_42 : decode cX6_walk 42 = .ok (.iload_n 2, 1) := by decide +kernel
theorem dX6_walk_43 : decode cX6_walk 43 = .ok (.if_icmp .gt 32, 3) := by decide +kernel
theorem dX6_walk_46 : decode cX6_walk 46 = .ok (.aload_n 0, 1) := by decide +kernel
theorem dX6_walk_47 : decode cX6_walk 47 = .ok (.iload 4, 2) := by decide +kernel
theorem dX6_walk_49 : decode cX6_walk 49 = .ok (.aload_n 0, 1) := by decide +kernel
theorem dX6_walk_50 : decode cX6_walk 50 = .ok (.getfield 61, 3) := by decide +kernel
theorem dX6_walk_53 : decode cX6_walk 53 = .ok (.iload_n 1, 1) := by decide +kernel
theorem dX6_walk_54 : decode cX6_walk 54 = .ok (.iload 4, 2) := by decide +kernel
theorem dX6_walk_56 : decode cX6_walk 56 = .ok (.iadd, 1) := by decide +kernel
theorem dX6_walk_57 : decode cX6_walk 57 = .ok (.invokevirtual 172, 3) := by decide +kernel
theorem dX6_walk_60 : decode cX6_walk 60 = .ok (.invokevirtual 164, 3) := by decide +kernel
theorem dX6_walk_63 : decode cX6_walk 63 = .ok (.ifCond .eq 6, 3) := by decide +kernel
theorem dX6_walk_66 : decode cX6_walk 66 = .ok (.iinc 3 1, 3) := by decide +kernel
theorem dX6_walk_69 : decode cX6_walk 69 = .ok (.iinc 4 1, 3) := by decide +kernel
theorem dX6_walk_72 : decode cX6_walk 72 = .ok (.goto (-32), 3) := by decide +kernel
theorem dX6_walk_75 : decode cX6_walk 75 = .ok (.iload_n 3, 1) := by decide +kernel
theorem dX6_walk_76 : decode cX6_walk 76 = .ok (.ireturn, 1) := by decide +kernel
set_option maxRecDepth 20000 in
theorem ggX6_seen_X6_isMan : GoodIn wsX6_seen wsX6_isMan := goodIn_r _ [6, 7, 26, 27, 28, 29, 30, 31, 32, 33, 34, 35, 36, 37, 42, 43, 44, 45, 46, 47, 48, 49, 50, 51, 52] (by decide +kernel) (by decide +kernel)
set_option maxRecDepth 20000 in
theorem gX6_seen_X6_isMan : GoodIn wsX6_seen (wsV RX6 103 RX6 yX6_isMan wsX6_isMan) := goodIn_app (goodIn_of _ (by decide +kernel)) ggX6_seen_X6_isMan
set_option maxRecDepth 20000 in
theorem ggX6_seen_X6_isLastBell : GoodIn wsX6_seen wsX6_isLastBell := goodIn_r _ [10] (by decide +kernel) (by decide +kernel)
set_option maxRecDepth 20000 in
theorem gX6_seen_X6_isLastBell : GoodIn wsX6_seen (va_wsS RX6 161 yX6_isLastBell wsX6_isLastBell) := goodIn_app (goodIn_of _ (by decide +kernel)) ggX6_seen_X6_isLastBell
set_option maxRecDepth 20000 in
theorem ggX6_seen_X0_add : GoodIn wsX6_seen wsX0_add := goodIn_r _ [15, 16, 17, 18, 19, 20, 21, 22, 23, 24, 25, 38, 39, 40, 41, 53] (by decide +kernel) (by decide +kernel)
set_option maxRecDepth 20000 in
theorem gX6_seen_X0_add : GoodIn wsX6_seen (wsV RX6 176 RX0 yX0_add wsX0_add) := goodIn_app (goodIn_of _ (by decide +kernel)) ggX6_seen_X0_add
theorem dX6_seen_0 : decode cX6_seen 0 = .ok (.aload_n 0, 1) := by decide +kernel
theorem dX6_seen_1 : decode cX6_seen 1 = .ok (.iload_n 1, 1) := by decide +kernel
theorem dX6_seen_2 : decode cX6_seen 2 = .ok (.invokevirtual 103, 3) := by decide +kernel
theorem dX6_seen_5 : decode cX6_seen 5 = .ok (.ifCond .eq 10, 3) := by decide +kernel
theorem dX6_seen_8 : decode cX6_seen 8 = .ok (.iload_n 2, 1) := by decide +kernel
theorem dX6_seen_9 : decode cX6_seen 9 = .ok (.invokestatic 161, 3) := by decide +kernel
theorem dX6_seen_12 : decode cX6_seen 12 = .ok (.ifCond .ne 5, 3) := by decide +kernel
theorem dX6_seen_15 : decode cX6_seen 15 = .ok (.iconst (-1), 1) := by decide +kernel
theorem dX6_seen_16 : decode cX6_seen 16 = .ok (.ireturn, 1) := by decide +kernel
theorem dX6_seen_17 : decode cX6_seen 17 = .ok (.aload_n 0, 1) := by decide +kernel
theorem dX6_seen_18 : decode cX6_seen 18 = .ok (.getfield 28, 3) := by decide +kernel
theorem dX6_seen_21 : decode cX6_seen 21 = .ok (.getfield 175, 3) := by decide +kernel
theorem dX6_seen_24 : decode cX6_seen 24 = .ok (.bipush 10, 2) := by decide +kernel
theorem dX6_seen_26 : decode cX6_seen 26 = .ok (.if_icmp .lt 6, 3) := by decide +kernel
theorem dX6_seen_29 : decode cX6_seen 29 = .ok (.bipush (-3), 2) := by decide +kernel
theorem dX6_seen_31 : decode cX6_seen 31 = .ok (.ireturn, 1) := by decide +kernel
theorem dX6_seen_32 : decode cX6_seen 32 = .ok (.aload_n 0, 1) := by decide +kernel
theorem dX6_seen_33 : decode cX6_seen 33 = .ok (.getfield 28, 3) := by decide +kernel
theorem dX6_seen_36 : decode cX6_seen 36 = .ok (.iload_n 1, 1) := by decide +kernel
theorem dX6_seen_37 : decode cX6_seen 37 = .ok (.iload_n 2, 1) := by decide +kernel
theorem dX6_seen_38 : decode cX6_seen 38 = .ok (.iload_n 3, 1) := by decide +kernel
theorem dX6_seen_39 : decode cX6_seen 39 = .ok (.invokevirtual 176, 3) := by decide +kernel
theorem dX6_seen_42 : decode cX6_seen 42 = .ok (.aload_n 0, 1) := by decide +kernel
theorem dX6_seen_43 : decode cX6_seen 43 = .ok (.getfield 28, 3) := by decide +kernel
theorem dX6_seen_46 : decode cX6_seen 46 = .ok (.getfield 175, 3) := by decide +kernel
theorem dX6_seen_49 : decode cX6_seen 49 = .ok (.ireturn, 1) := by decide +kernel
set_option maxRecDepth 20000 in
theorem ggX6_forget_X0_clear : GoodIn wsX6_forget wsX0_clear := goodIn_r _ [6, 7, 20, 21, 22, 23] (by decide +kernel) (by decide +kernel)
set_option maxRecDepth 20000 in
theorem gX6_forget_X0_clear : GoodIn wsX6_forget (wsV RX6 96 RX0 yX0_clear wsX0_clear) := goodIn_app (goodIn_of _ (by decide +kernel)) ggX6_forget_X0_clear
theorem dX6_forget_0 : decode cX6_forget 0 = .ok (.aload_n 0, 1) := by decide +kernel
theorem dX6_forget_1 : decode cX6_forget 1 = .ok (.getfield 28, 3) := by decide +kernel
theorem dX6_forget_4 : decode cX6_forget 4 = .ok (.getfield 175, 3) := by decide +kernel
theorem dX6_forget_7 : decode cX6_forget 7 = .ok (.istore_n 1, 1) := by decide +kernel
theorem dX6_forget_8 : decode cX6_forget 8 = .ok (.aload_n 0, 1) := by decide +kernel
theorem dX6_forget_9 : decode cX6_forget 9 = .ok (.getfield 28, 3) := by decide +kernel
theorem dX6_forget_12 : decode cX6_forget 12 = .ok (.invokevirtual 96, 3) := by decide +kernel
theorem dX6_forget_15 : decode cX6_forget 15 = .ok (.iload_n 1, 1) := by decide +kernel
theorem dX6_forget_16 : decode cX6_forget 16 = .ok (.ireturn, 1) := by decide +kernel
set_option maxRecDepth 20000 in
theorem ggX6_fits_X6_setsWith : GoodIn wsX6_fits wsX6_setsWith := goodIn_r _ [5, 6, 7, 8, 9, 10, 11, 12, 13, 14, 15, 16, 17, 18, 19, 20, 21, 22, 23, 24, 25, 26, 27, 28, 29, 30, 31, 32, 33, 34, 35, 36, 37, 38, 39, 40, 41, 42, 43, 44, 45, 46, 47, 48, 49, 50, 51, 52, 53, 54, 55, 56, 57, 58, 59, 60, 61, 62, 63, 64, 65, 66, 67, 68, 69, 70, 71, 72, 73, 74, 75, 76, 77, 78, 79, 80, 81, 82, 83, 84, 85, 86, 87, 88, 89, 90, 91, 92, 93, 94, 95, 96, 97, 98, 99] (by decide +kernel) (by decide +kernel)
set_option maxRecDepth 20000 in
theorem gX6_fits_X6_setsWith : GoodIn wsX6_fits (wsV RX6 180 RX6 yX6_setsWith wsX6_setsWith) := goodIn_app (goodIn_of _ (by decide +kernel)) ggX6_fits_X6_setsWith
theorem dX6_fits_0 : decode cX6_fits 0 = .ok (.aload_n 0, 1) := by decide +kernel
theorem dX6_fits_1 : decode cX6_fits 1 = .ok (.iconst 0, 1) := by decide +kernel
theorem dX6_fits_2 : decode cX6_fits 2 = .ok (.invokevirtual 180, 3) := by decide +kernel
theorem dX6_fits_5 : decode cX6_fits 5 = .ok (.ireturn, 1) := by decide +kernel
set_option maxRecDepth 20000 in
theorem ggX6_odds_X6_isMan : GoodIn wsX6_odds wsX6_isMan := goodIn_r _ [5, 6, 79, 80, 81, 82, 83, 84, 85, 86, 87, 88, 89, 90, 91, 92, 93, 94, 95, 96, 97, 98, 99, 100, 101] (by decide +kernel) (by decide +kernel)
set_option maxRecDepth 20000 in
theorem gX6_odds_X6_isMan : GoodIn wsX6_odds (wsV RX6 103 RX6 yX6_isMan wsX6_isMan) := goodIn_app (goodIn_of _ (by decide +kernel)) ggX6_odds_X6_isMan
set_option maxRecDepth 20000 in
theorem ggX6_odds_X6_setsWith : GoodIn wsX6_odds wsX6_setsWith := goodIn_r _ [10, 6, 11, 12, 13, 14, 15, 16, 17, 18, 19, 20, 21, 22, 23, 24, 25, 26, 27, 28, 29, 30, 31, 32, 33, 34, 35, 36, 37, 38, 39, 40, 41, 42, 43, 44, 45, 46, 47, 48, 49, 50, 51, 52, 53, 54, 55, 56, 57, 58, 59, 60, 61, 62, 63, 64, 65, 66, 67, 68, 69, 70, 71, 72, 73, 74, 75, 79, 80, 81, 82, 83, 84, 85, 86, 87, 88, 89, 90, 91, 92, 93, 94, 95, 96, 97, 98, 99, 100, 101, 102, 103, 104, 105, 106] (by decide +kernel) (by decide +kernel)
set_option maxRecDepth 20000 in
theorem gX6_odds_X6_setsWith : GoodIn wsX6_odds (wsV RX6 180 RX6 yX6_setsWith wsX6_setsWith) := goodIn_app (goodIn_of _ (by decide +kernel)) ggX6_odds_X6_setsWith
set_option maxRecDepth 20000 in
theorem ggX6_odds_X6_commonDivisor : GoodIn wsX6_odds wsX6_commonDivisor := goodIn_r _ [78] (by decide +kernel) (by decide +kernel)
set_option maxRecDepth 20000 in
theorem gX6_odds_X6_commonDivisor : GoodIn wsX6_odds (va_wsS RX6 183 yX6_commonDivisor wsX6_commonDivisor) := goodIn_app (goodIn_of _ (by decide +kernel)) ggX6_odds_X6_commonDivisor
theorem dX6_odds_0 : decode cX6_odds 0 = .ok (.aload_n 0, 1) := by decide +kernel
theorem dX6_odds_1 : decode cX6_odds 1 = .ok (.iload_n 1, 1) := by decide +kernel
theorem dX6_odds_2 : decode cX6_odds 2 = .ok (.invokevirtual 103, 3) := by decide +kernel
theorem dX6_odds_5 : decode cX6_odds 5 = .ok (.ifCond .eq 12, 3) := by decide +kernel
theorem dX6_odds_8 : decode cX6_odds 8 = .ok (.iload_n 2, 1) := by decide +kernel
theorem dX6_odds_9 : decode cX6_odds 9 = .ok (.ifCond .lt 8, 3) := by decide +kernel
theorem dX6_odds_12 : decode cX6_odds 12 = .ok (.iload_n 2, 1) := by decide +kernel
theorem dX6_odds_13 : decode cX6_odds 13 = .ok (.iconst 1, 1) := by decide +kernel
theorem dX6_odds_14 : decode cX6_odds 14 = .ok (.if_icmp .le 5, 3) := by decide +kernel
theorem dX6_odds_17 : decode cX6_odds 17 = .ok (.iconst (-1), 1) := by decide +kernel
theorem dX6_odds_18 : decode cX6_odds 18 = .ok (.ireturn, 1) := by decide +kernel
theorem dX6_odds_19 : decode cX6_odds 19 = .ok (.aload_n 0, 1) := by decide +kernel
theorem dX6_odds_20 : decode cX6_odds 20 = .ok (.iconst 0, 1) := by decide +kernel
theorem dX6_odds_21 : decode cX6_odds 21 = .ok (.invokevirtual 180, 3) := by decide +kernel
theorem dX6_odds_24 : decode cX6_odds 24 = .ok (.istore_n 3, 1) := by decide +kernel
theorem dX6_odds_25 : decode cX6_odds 25 = .ok (.iload_n 3, 1) := by decide +kernel
theorem dX6_odds_26 : decode cX6_odds 26 = .ok (.ifCond .ne 6, 3) := by decide +kernel
theorem dX6_odds_29 : decode cX6_odds 29 = .ok (.bipush (-4), 2) := by decide +kernel
theorem dX6_odds_31 : decode cX6_odds 31 = .ok (.ireturn, 1) := by decide +kernel
theorem dX6_odds_32 : decode cX6_odds 32 = .ok (.aload_n 0, 1) := by decide +kernel
theorem dX6_odds_33 : decode cX6_odds 33 = .ok (.iconst 1, 1) := by decide +kernel
theorem dX6_odds_34 : decode cX6_odds 34 = .ok (.iload_n 1, 1) := by decide +kernel
theorem dX6_odds_35 : decode cX6_odds 35 = .ok (.ishl, 1) := by decide +kernel
theorem dX6_odds_36 : decode cX6_odds 36 = .ok (.invokevirtual 180, 3) := by decide +kernel
theorem dX6_odds_39 : decode cX6_odds 39 = .ok (.istore 4, 2) := by decide +kernel
theorem dX6_odds_41 : decode cX6_odds 41 = .ok (.iload 4, 2) := by decide +kernel
theorem dX6_odds_43 : decode cX6_odds 43 = .ok (.iload_n 3, 1) := by decide +kernel
theorem dX6_odds_44 : decode cX6_odds 44 = .ok (.invokestatic 183, 3) := by decide +kernel
theorem dX6_odds_47 : decode cX6_odds 47 = .ok (.istore 5, 2) := by decide +kernel
theorem dX6_odds_49 : decode cX6_odds 49 = .ok (.iload 5, 2) := by decide +kernel
theorem dX6_odds_51 : decode cX6_odds 51 = .ok (.iconst 1, 1) := by decide +kernel
theorem dX6_odds_52 : decode cX6_odds 52 = .ok (.if_icmp .ge 6, 3) := by decide +kernel
theorem dX6_odds_55 : decode cX6_odds 55 = .ok (.bipush (-4), 2) := by decide +kernel
theorem dX6_odds_57 : decode cX6_odds 57 = .ok (.ireturn, 1) := by decide +kernel
theorem dX6_odds_58 : decode cX6_odds 58 = .ok (.iload_n 2, 1) := by decide +kernel
theorem dX6_odds_59 : decode cX6_odds 59 = .ok (.ifCond .ne 8, 3) := by decide +kernel
theorem dX6_odds_62 : decode cX6_odds 62 = .ok (.iload 4, 2) := by decide +kernel
theorem dX6_odds_64 : decode cX6_odds 64 = .ok (.goto 4, 3) := by decide +kernel
theorem dX6_odds_67 : decode cX6_odds 67 = .ok (.iload_n 3, 1) := by decide +kernel
theorem dX6_odds_68 : decode cX6_odds 68 = .ok (.iload 5, 2) := by decide +kernel
theorem dX6_odds_70 : decode cX6_odds 70 = .ok (.idiv, 1) := by decide +kernel
theorem dX6_odds_71 : decode cX6_odds 71 = .ok (.ireturn, 1) := by decide +kernel
set_option maxRecDepth 20000 in
theorem ggX6_letOut_X5_reckonLit : GoodIn wsX6_letOut wsX5_reckonLit := goodIn_r _ [7, 8, 9, 10, 11, 12, 13, 14, 15, 16, 6, 17, 18, 19, 20, 21, 22, 23, 24, 25, 26, 27, 28, 29, 30, 31, 32, 33, 34, 35, 36, 37, 38, 39, 40, 41, 42, 43, 44, 84, 85, 86, 87, 88, 89, 90, 91, 92, 93, 94, 95] (by decide +kernel) (by decide +kernel)
set_option maxRecDepth 20000 in
theorem gX6_letOut_X5_reckonLit : GoodIn wsX6_letOut (wsV RX6 187 RX5 yX5_reckonLit wsX5_reckonLit) := goodIn_app (goodIn_of _ (by decide +kernel)) ggX6_letOut_X5_reckonLit
set_option maxRecDepth 20000 in
theorem ggX6_letOut_X6_fitsWithDraught : GoodIn wsX6_letOut wsX6_fitsWithDraught := goodIn_r _ [49, 1, 2, 50, 11, 12, 13, 51, 52, 33, 34, 6, 35, 36, 37, 38, 39, 40, 8, 41, 42, 43, 44, 53, 29, 30, 25, 31, 27, 54, 23, 24, 26, 55, 56, 57, 58, 59, 60, 61, 62, 63, 64, 65, 66, 67, 68, 69, 70, 71, 72, 73, 74, 75, 76, 77, 78, 79, 80, 81, 82, 83, 84, 85, 86, 87, 88, 89, 90, 91, 92, 93, 94, 95, 96, 97, 98, 99] (by decide +kernel) (by decide +kernel)
set_option maxRecDepth 20000 in
theorem gX6_letOut_X6_fitsWithDraught : GoodIn wsX6_letOut (wsV RX6 190 RX6 yX6_fitsWithDraught wsX6_fitsWithDraught) := goodIn_app (goodIn_of _ (by decide +kernel)) ggX6_letOut_X6_fitsWithDraught
theorem dX6_letOut_0 : decode cX6_letOut 0 = .ok (.iload_n 1, 1) := by decide +kernel
theorem dX6_letOut_1 : decode cX6_letOut 1 = .ok (.ifCond .lt 8, 3) := by decide +kernel
theorem dX6_letOut_4 : decode cX6_letOut 4 = .ok (.iload_n 1, 1) := by decide +kernel
theorem dX6_letOut_5 : decode cX6_letOut 5 = .ok (.iconst 1, 1) := by decide +kernel
theorem dX6_letOut_6 : decode cX6_letOut 6 = .ok (.if_icmp .le 5, 3) := by decide +kernel
theorem dX6_letOut_9 : decode cX6_letOut 9 = .ok (.iconst (-1), 1) := by decide +kernel
theorem dX6_letOut_10 : decode cX6_letOut 10 = .ok (.ireturn, 1) := by decide +kernel
theorem dX6_letOut_11 : decode cX6_letOut 11 = .ok (.aload_n 0, 1) := by decide +kernel
theorem dX6_letOut_12 : decode cX6_letOut 12 = .ok (.getfield 61, 3) := by decide +kernel
theorem dX6_letOut_15 : decode cX6_letOut 15 = .ok (.aload_n 0, 1) := by decide +kernel
theorem dX6_letOut_16 : decode cX6_letOut 16 = .ok (.getfield 61, 3) := by decide +kernel
theorem dX6_letOut_19 : decode cX6_letOut 19 = .ok (.getfield 186, 3) := by decide +kernel
theorem dX6_letOut_22 : decode cX6_letOut 22 = .ok (.aload_n 0, 1) := by decide +kernel
theorem dX6_letOut_23 : decode cX6_letOut 23 = .ok (.getfield 55, 3) := by decide +kernel
theorem dX6_letOut_26 : decode cX6_letOut 26 = .ok (.invokevirtual 187, 3) := by decide +kernel
theorem dX6_letOut_29 : decode cX6_letOut 29 = .ok (.iconst 0, 1) := by decide +kernel
theorem dX6_letOut_30 : decode cX6_letOut 30 = .ok (.istore_n 2, 1) := by decide +kernel
theorem dX6_letOut_31 : decode cX6_letOut 31 = .ok (.iconst 1, 1) := by decide +kernel
theorem dX6_letOut_32 : decode cX6_letOut 32 = .ok (.istore_n 3, 1) := by decide +kernel
theorem dX6_letOut_33 : decode cX6_letOut 33 = .ok (.iload_n 3, 1) := by decide +kernel
theorem dX6_letOut_34 : decode cX6_letOut 34 = .ok (.bipush 60, 2) := by decide +kernel
theorem dX6_letOut_36 : decode cX6_letOut 36 = .ok (.if_icmp .gt 59, 3) := by decide +kernel
theorem dX6_letOut_39 : decode cX6_letOut 39 = .ok (.iconst 0, 1) := by decide +kernel
theorem dX6_letOut_40 : decode cX6_letOut 40 = .ok (.istore 4, 2) := by decide +kernel
theorem dX6_letOut_42 : decode cX6_letOut 42 = .ok (.iload 4, 2) := by decide +kernel
theorem dX6_letOut_44 : decode cX6_letOut 44 = .ok (.aload_n 0, 1) := by decide +kernel
theorem dX6_letOut_45 : decode cX6_letOut 45 = .ok (.getfield 61, 3) := by decide +kernel
theorem dX6_letOut_48 : decode cX6_letOut 48 = .ok (.getfield 100, 3) := by decide +kernel
theorem dX6_letOut_51 : decode cX6_letOut 51 = .ok (.if_icmp .ge 38, 3) := by decide +kernel
theorem dX6_letOut_54 : decode cX6_letOut 54 = .ok (.aload_n 0, 1) := by decide +kernel
theorem dX6_letOut_55 : decode cX6_letOut 55 = .ok (.iload_n 3, 1) := by decide +kernel
theorem dX6_letOut_56 : decode cX6_letOut 56 = .ok (.iload 4, 2) := by decide +kernel
theorem dX6_letOut_58 : decode cX6_letOut 58 = .ok (.invokevirtual 190, 3) := by decide +kernel
theorem dX6_letOut_61 : decode cX6_letOut 61 = .ok (.ifCond .ne 6, 3) := by decide +kernel
theorem dX6_letOut_64 : decode cX6_letOut 64 = .ok (.goto 19, 3) := by decide +kernel
theorem dX6_letOut_67 : decode cX6_letOut 67 = .ok (.iload_n 1, 1) := by decide +kernel
theorem dX6_letOut_68 : decode cX6_letOut 68 = .ok (.iconst 1, 1) := by decide +kernel
theorem dX6_letOut_69 : decode cX6_letOut 69 = .ok (.if_icmp .ne 11, 3) := by decide +kernel
theorem dX6_letOut_72 : decode cX6_letOut 72 = .ok (.bipush 10, 2) := by decide +kernel
theorem dX6_letOut_74 : decode cX6_letOut 74 = .ok (.iload_n 3, 1) := by decide +kernel
theorem dX6_letOut_75 : decode cX6_letOut 75 = .ok (.imul, 1) := by decide +kernel
theorem dX6_letOut_76 : decode cX6_letOut 76 = .ok (.iload 4, 2) := by decide +kernel
theorem dX6_letOut_78 : decode cX6_letOut 78 = .ok (.iadd, 1) := by decide +kernel
theorem dX6_letOut_79 : decode cX6_letOut 79 = .ok (.ireturn, 1) := by decide +kernel
theorem dX6_letOut_80 : decode cX6_letOut 80 = .ok (.iinc 2 1, 3) := by decide +kernel
theorem dX6_letOut_83 : decode cX6_letOut 83 = .ok (.iinc 4 1, 3) := by decide +kernel
theorem dX6_letOut_86 : decode cX6_letOut 86 = .ok (.goto (-44), 3) := by decide +kernel
theorem dX6_letOut_89 : decode cX6_letOut 89 = .ok (.iinc 3 1, 3) := by decide +kernel
theorem dX6_letOut_92 : decode cX6_letOut 92 = .ok (.goto (-59), 3) := by decide +kernel
theorem dX6_letOut_95 : decode cX6_letOut 95 = .ok (.iload_n 1, 1) := by decide +kernel
theorem dX6_letOut_96 : decode cX6_letOut 96 = .ok (.iconst 1, 1) := by decide +kernel
theorem dX6_letOut_97 : decode cX6_letOut 97 = .ok (.if_icmp .ne 8, 3) := by decide +kernel
theorem dX6_letOut_100 : decode cX6_letOut 100 = .ok (.bipush (-4), 2) := by decide +kernel
theorem dX6_letOut_102 : decode cX6_letOut 102 = .ok (.goto 4, 3) := by decide +kernel
theorem dX6_letOut_105 : decode cX6_letOut 105 = .ok (.iload_n 2, 1) := by decide +kernel
theorem dX6_letOut_106 : decode cX6_letOut 106 = .ok (.ireturn, 1) := by decide +kernel
set_option maxRecDepth 20000 in
theorem ggX6_coldHands_X5_reckonLit : GoodIn wsX6_coldHands wsX5_reckonLit := goodIn_r _ [8, 9, 10, 11, 12, 13, 14, 15, 16, 17, 7, 18, 19, 20, 21, 22, 23, 24, 25, 26, 27, 28, 29, 30, 31, 32, 33, 34, 35, 36, 37, 38, 39, 40, 41, 42, 43, 44, 45, 75, 76, 77, 78, 79, 80, 81, 82, 83, 84, 85, 86] (by decide +kernel) (by decide +kernel)
set_option maxRecDepth 20000 in
theorem gX6_coldHands_X5_reckonLit : GoodIn wsX6_coldHands (wsV RX6 187 RX5 yX5_reckonLit wsX5_reckonLit) := goodIn_app (goodIn_of _ (by decide +kernel)) ggX6_coldHands_X5_reckonLit
set_option maxRecDepth 20000 in
theorem ggX6_coldHands_X0_agrees : GoodIn wsX6_coldHands wsX0_agrees := goodIn_r _ [50, 51, 52, 53, 54, 55, 30, 31, 26, 32, 28, 56, 34, 35, 7, 36, 37, 38, 39, 40, 41, 9, 42, 43, 44, 45, 57, 58, 59, 60, 61, 62, 87, 88, 89, 90, 75, 76, 77, 78, 79, 80, 81, 82, 83, 84, 85, 86] (by decide +kernel) (by decide +kernel)
set_option maxRecDepth 20000 in
theorem gX6_coldHands_X0_agrees : GoodIn wsX6_coldHands (wsV RX6 193 RX0 yX0_agrees wsX0_agrees) := goodIn_app (goodIn_of _ (by decide +kernel)) ggX6_coldHands_X0_agrees
theorem dX6_coldHands_0 : decode cX6_coldHands 0 = .ok (.aload_n 0, 1) := by decide +kernel
theorem dX6_coldHands_1 : decode cX6_coldHands 1 = .ok (.getfield 61, 3) := by decide +kernel
theorem dX6_coldHands_4 : decode cX6_coldHands 4 = .ok (.aload_n 0, 1) := by decide +kernel
theorem dX6_coldHands_5 : decode cX6_coldHands 5 = .ok (.getfield 61, 3) := by decide +kernel
theorem dX6_coldHands_8 : decode cX6_coldHands 8 = .ok (.getfield 186, 3) := by decide +kernel
theorem dX6_coldHands_11 : decode cX6_coldHands 11 = .ok (.aload_n 0, 1) := by decide +kernel
theorem dX6_coldHands_12 : decode cX6_coldHands 12 = .ok (.getfield 55, 3) := by decide +kernel
theorem dX6_coldHands_15 : decode cX6_coldHands 15 = .ok (.invokevirtual 187, 3) := by decide +kernel
theorem dX6_coldHands_18 : decode cX6_coldHands 18 = .ok (.aload_n 0, 1) := by decide +kernel
theorem dX6_coldHands_19 : decode cX6_coldHands 19 = .ok (.getfield 28, 3) := by decide +kernel
theorem dX6_coldHands_22 : decode cX6_coldHands 22 = .ok (.aload_n 0, 1) := by decide +kernel
theorem dX6_coldHands_23 : decode cX6_coldHands 23 = .ok (.getfield 61, 3) := by decide +kernel
theorem dX6_coldHands_26 : decode cX6_coldHands 26 = .ok (.aload_n 0, 1) := by decide +kernel
theorem dX6_coldHands_27 : decode cX6_coldHands 27 = .ok (.getfield 55, 3) := by decide +kernel
theorem dX6_coldHands_30 : decode cX6_coldHands 30 = .ok (.iconst (-1), 1) := by decide +kernel
theorem dX6_coldHands_31 : decode cX6_coldHands 31 = .ok (.invokevirtual 193, 3) := by decide +kernel
theorem dX6_coldHands_34 : decode cX6_coldHands 34 = .ok (.ifCond .eq 8, 3) := by decide +kernel
theorem dX6_coldHands_37 : decode cX6_coldHands 37 = .ok (.bipush 64, 2) := by decide +kernel
theorem dX6_coldHands_39 : decode cX6_coldHands 39 = .ok (.goto 4, 3) := by decide +kernel
theorem dX6_coldHands_42 : decode cX6_coldHands 42 = .ok (.iconst 0, 1) := by decide +kernel
theorem dX6_coldHands_43 : decode cX6_coldHands 43 = .ok (.istore_n 1, 1) := by decide +kernel
theorem dX6_coldHands_44 : decode cX6_coldHands 44 = .ok (.iconst 0, 1) := by decide +kernel
theorem dX6_coldHands_45 : decode cX6_coldHands 45 = .ok (.istore_n 2, 1) := by decide +kernel
theorem dX6_coldHands_46 : decode cX6_coldHands 46 = .ok (.iload_n 2, 1) := by decide +kernel
theorem dX6_coldHands_47 : decode cX6_coldHands 47 = .ok (.aload_n 0, 1) := by decide +kernel
theorem dX6_coldHands_48 : decode cX6_coldHands 48 = .ok (.getfield 61, 3) := by decide +kernel
theorem dX6_coldHands_51 : decode cX6_coldHands 51 = .ok (.getfield 100, 3) := by decide +kernel
theorem dX6_coldHands_54 : decode cX6_coldHands 54 = .ok (.if_icmp .ge 34, 3) := by decide +kernel
theorem dX6_coldHands_57 : decode cX6_coldHands 57 = .ok (.aload_n 0, 1) := by decide +kernel
theorem dX6_coldHands_58 : decode cX6_coldHands 58 = .ok (.getfield 28, 3) := by decide +kernel
theorem dX6_coldHands_61 : decode cX6_coldHands 61 = .ok (.aload_n 0, 1) := by decide +kernel
theorem dX6_coldHands_62 : decode cX6_coldHands 62 = .ok (.getfield 61, 3) := by decide +kernel
theorem dX6_coldHands_65 : decode cX6_coldHands 65 = .ok (.aload_n 0, 1) := by decide +kernel
theorem dX6_coldHands_66 : decode cX6_coldHands 66 = .ok (.getfield 55, 3) := by decide +kernel
theorem dX6_coldHands_69 : decode cX6_coldHands 69 = .ok (.iload_n 2, 1) := by decide +kernel
theorem dX6_coldHands_70 : decode cX6_coldHands 70 = .ok (.invokevirtual 193, 3) := by decide +kernel
theorem dX6_coldHands_73 : decode cX6_coldHands 73 = .ok (.ifCond .eq 9, 3) := by decide +kernel
theorem dX6_coldHands_76 : decode cX6_coldHands 76 = .ok (.iload_n 1, 1) := by decide +kernel
theorem dX6_coldHands_77 : decode cX6_coldHands 77 = .ok (.iconst 1, 1) := by decide +kernel
theorem dX6_coldHands_78 : decode cX6_coldHands 78 = .ok (.iload_n 2, 1) := by decide +kernel
theorem dX6_coldHands_79 : decode cX6_coldHands 79 = .ok (.ishl, 1) := by decide +kernel
theorem dX6_coldHands_80 : decode cX6_coldHands 80 = .ok (.ior, 1) := by decide +kernel
theorem dX6_coldHands_81 : decode cX6_coldHands 81 = .ok (.istore_n 1, 1) := by decide +kernel
theorem dX6_coldHands_82 : decode cX6_coldHands 82 = .ok (.iinc 2 1, 3) := by decide +kernel
theorem dX6_coldHands_85 : decode cX6_coldHands 85 = .ok (.goto (-39), 3) := by decide +kernel
theorem dX6_coldHands_88 : decode cX6_coldHands 88 = .ok (.iload_n 1, 1) := by decide +kernel
theorem dX6_coldHands_89 : decode cX6_coldHands 89 = .ok (.ireturn, 1) := by decide +kernel
set_option maxRecDepth 20000 in
theorem ggX6_keepLit_X6_isSet : GoodIn wsX6_keepLit wsX6_isSet := goodIn_r _ [8, 1, 79, 80, 81, 82, 83, 84, 85, 86, 87, 88, 89, 90, 91, 92, 93, 94, 95, 96, 97, 98, 99, 100, 101] (by decide +kernel) (by decide +kernel)
set_option maxRecDepth 20000 in
theorem gX6_keepLit_X6_isSet : GoodIn wsX6_keepLit (wsV RX6 197 RX6 yX6_isSet wsX6_isSet) := goodIn_app (goodIn_of _ (by decide +kernel)) ggX6_keepLit_X6_isSet
set_option maxRecDepth 20000 in
theorem ggX6_keepLit_X5_reckonDraughts : GoodIn wsX6_keepLit wsX5_reckonDraughts := goodIn_r _ [13, 14, 15, 16, 17, 18, 19, 20, 21, 22, 23, 24, 25, 26, 27, 28, 29, 30, 31, 32, 33, 34, 35, 12, 36, 37, 38, 39, 40, 41, 42, 43, 44, 45, 91, 92, 93, 94, 95, 96, 97, 98, 99, 100, 101, 107] (by decide +kernel) (by decide +kernel)
set_option maxRecDepth 20000 in
theorem gX6_keepLit_X5_reckonDraughts : GoodIn wsX6_keepLit (wsV RX6 146 RX5 yX5_reckonDraughts wsX5_reckonDraughts) := goodIn_app (goodIn_of _ (by decide +kernel)) ggX6_keepLit_X5_reckonDraughts
set_option maxRecDepth 20000 in
theorem ggX6_keepLit_X6_waysToFinish : GoodIn wsX6_keepLit wsX6_waysToFinish := goodIn_r _ [49, 1, 50, 51, 52, 53, 54, 55, 56, 57, 58, 59, 12, 60, 37, 38, 39, 40, 41, 14, 42, 43, 44, 45, 61, 62, 63, 7, 64, 2, 3, 65, 30, 31, 26, 32, 28, 66, 67, 68, 69, 70, 71, 72, 20, 21, 22, 73, 74, 75, 76, 77, 78, 79, 80, 81, 82, 83, 84, 85, 86, 87, 88, 89, 90, 91, 92, 93, 94, 95, 96, 97, 98, 99, 100, 101, 107, 102, 103, 104, 105, 106] (by decide +kernel) (by decide +kernel)
set_option maxRecDepth 20000 in
theorem gX6_keepLit_X6_waysToFinish : GoodIn wsX6_keepLit (wsV RX6 200 RX6 yX6_waysToFinish wsX6_waysToFinish) := goodIn_app (goodIn_of _ (by decide +kernel)) ggX6_keepLit_X6_waysToFinish
set_option maxRecDepth 20000 in
theorem ggX6_keepLit_X5_bellsNeeded : GoodIn wsX6_keepLit wsX5_bellsNeeded := goodIn_r _ [60, 37, 38, 39, 40, 12, 41, 14, 42, 43, 44, 45, 91, 92, 93, 94, 95, 96, 97, 98, 99, 100, 101] (by decide +kernel) (by decide +kernel)
set_option maxRecDepth 20000 in
theorem gX6_keepLit_X5_bellsNeeded : GoodIn wsX6_keepLit (wsV RX6 204 RX5 yX5_bellsNeeded wsX5_bellsNeeded) := goodIn_app (goodIn_of _ (by decide +kernel)) ggX6_keepLit_X5_bellsNeeded
set_option maxRecDepth 20000 in
theorem ggX6_keepLit_X6_firstThatFinishes : GoodIn wsX6_keepLit wsX6_firstThatFinishes := goodIn_r _ [64, 1, 2, 3, 65, 30, 31, 26, 32, 28, 66, 67, 68, 69, 70, 71, 72, 20, 21, 22, 73, 74, 75, 76, 77, 78, 79, 80, 81, 82, 83, 84, 85, 86, 87, 88, 89, 90, 91, 92, 93, 94, 95, 96, 97, 98, 99, 100, 101, 107, 102, 103, 104, 105, 106] (by decide +kernel) (by decide +kernel)
set_option maxRecDepth 20000 in
theorem gX6_keepLit_X6_firstThatFinishes : GoodIn wsX6_keepLit (wsV RX6 208 RX6 yX6_firstThatFinishes wsX6_firstThatFinishes) := goodIn_app (goodIn_of _ (by decide +kernel)) ggX6_keepLit_X6_firstThatFinishes
set_option maxRecDepth 20000 in
theorem ggX6_keepLit_X3_get : GoodIn wsX6_keepLit wsX3_get := goodIn_r _ [32, 28, 107] (by decide +kernel) (by decide +kernel)
set_option maxRecDepth 20000 in
theorem gX6_keepLit_X3_get : GoodIn wsX6_keepLit (wsV RX6 109 RX3 yX3_get wsX3_get) := goodIn_app (goodIn_of _ (by decide +kernel)) ggX6_keepLit_X3_get
theorem dX6_keepLit_0 : decode cX6_keepLit 0 = .ok (.aload_n 0, 1) := by decide +kernel
theorem dX6_keepLit_1 : decode cX6_keepLit 1 = .ok (.iload_n 1, 1) := by decide +kernel
theorem dX6_keepLit_2 : decode cX6_keepLit 2 = .ok (.invokevirtual 197, 3) := by decide +kernel
theorem dX6_keepLit_5 : decode cX6_keepLit 5 = .ok (.ifCond .eq 29, 3) := by decide +kernel
theorem dX6_keepLit_8 : decode cX6_keepLit 8 = .ok (.iload_n 2, 1) := by decide +kernel
theorem dX6_keepLit_9 : decode cX6_keepLit 9 = .ok (.ifCond .lt 25, 3) := by decide +kernel
theorem dX6_keepLit_12 : decode cX6_keepLit 12 = .ok (.iload_n 2, 1) := by decide +kernel
theorem dX6_keepLit_13 : decode cX6_keepLit 13 = .ok (.bipush 20, 2) := by decide +kernel
theorem dX6_keepLit_15 : decode cX6_keepLit 15 = .ok (.if_icmp .gt 19, 3) := by decide +kernel
theorem dX6_keepLit_18 : decode cX6_keepLit 18 = .ok (.iload_n 3, 1) := by decide +kernel
theorem dX6_keepLit_19 : decode cX6_keepLit 19 = .ok (.iconst (-1), 1) := by decide +kernel
theorem dX6_keepLit_20 : decode cX6_keepLit 20 = .ok (.if_icmp .lt 14, 3) := by decide +kernel
theorem dX6_keepLit_23 : decode cX6_keepLit 23 = .ok (.iload_n 3, 1) := by decide +kernel
theorem dX6_keepLit_24 : decode cX6_keepLit 24 = .ok (.aload_n 0, 1) := by decide +kernel
theorem dX6_keepLit_25 : decode cX6_keepLit 25 = .ok (.getfield 61, 3) := by decide +kernel
theorem dX6_keepLit_28 : decode cX6_keepLit 28 = .ok (.getfield 100, 3) := by decide +kernel
theorem dX6_keepLit_31 : decode cX6_keepLit 31 = .ok (.if_icmp .lt 5, 3) := by decide +kernel
theorem dX6_keepLit_34 : decode cX6_keepLit 34 = .ok (.iconst (-1), 1) := by decide +kernel
theorem dX6_keepLit_35 : decode cX6_keepLit 35 = .ok (.ireturn, 1) := by decide +kernel
theorem dX6_keepLit_36 : decode cX6_keepLit 36 = .ok (.aload_n 0, 1) := by decide +kernel
theorem dX6_keepLit_37 : decode cX6_keepLit 37 = .ok (.getfield 61, 3) := by decide +kernel
theorem dX6_keepLit_40 : decode cX6_keepLit 40 = .ok (.aload_n 0, 1) := by decide +kernel
theorem dX6_keepLit_41 : decode cX6_keepLit 41 = .ok (.getfield 45, 3) := by decide +kernel
theorem dX6_keepLit_44 : decode cX6_keepLit 44 = .ok (.getfield 143, 3) := by decide +kernel
theorem dX6_keepLit_47 : decode cX6_keepLit 47 = .ok (.aload_n 0, 1) := by decide +kernel
theorem dX6_keepLit_48 : decode cX6_keepLit 48 = .ok (.getfield 52, 3) := by decide +kernel
theorem dX6_keepLit_51 : decode cX6_keepLit 51 = .ok (.invokevirtual 146, 3) := by decide +kernel
theorem dX6_keepLit_54 : decode cX6_keepLit 54 = .ok (.aload_n 0, 1) := by decide +kernel
theorem dX6_keepLit_55 : decode cX6_keepLit 55 = .ok (.iload_n 1, 1) := by decide +kernel
theorem dX6_keepLit_56 : decode cX6_keepLit 56 = .ok (.iload_n 2, 1) := by decide +kernel
theorem dX6_keepLit_57 : decode cX6_keepLit 57 = .ok (.invokevirtual 200, 3) := by decide +kernel
theorem dX6_keepLit_60 : decode cX6_keepLit 60 = .ok (.lstore 4, 2) := by decide +kernel
theorem dX6_keepLit_62 : decode cX6_keepLit 62 = .ok (.lload 4, 2) := by decide +kernel
theorem dX6_keepLit_64 : decode cX6_keepLit 64 = .ok (.lconst 1, 1) := by decide +kernel
theorem dX6_keepLit_65 : decode cX6_keepLit 65 = .ok (.land, 1) := by decide +kernel
theorem dX6_keepLit_66 : decode cX6_keepLit 66 = .ok (.lconst 0, 1) := by decide +kernel
theorem dX6_keepLit_67 : decode cX6_keepLit 67 = .ok (.lcmp, 1) := by decide +kernel
theorem dX6_keepLit_68 : decode cX6_keepLit 68 = .ok (.ifCond .ne 6, 3) := by decide +kernel
theorem dX6_keepLit_71 : decode cX6_keepLit 71 = .ok (.bipush (-4), 2) := by decide +kernel
theorem dX6_keepLit_73 : decode cX6_keepLit 73 = .ok (.ireturn, 1) := by decide +kernel
theorem dX6_keepLit_74 : decode cX6_keepLit 74 = .ok (.iconst 0, 1) := by decide +kernel
theorem dX6_keepLit_75 : decode cX6_keepLit 75 = .ok (.istore 6, 2) := by decide +kernel
theorem dX6_keepLit_77 : decode cX6_keepLit 77 = .ok (.iconst 0, 1) := by decide +kernel
theorem dX6_keepLit_78 : decode cX6_keepLit 78 = .ok (.istore 7, 2) := by decide +kernel
theorem dX6_keepLit_80 : decode cX6_keepLit 80 = .ok (.iconst 0, 1) := by decide +kernel
theorem dX6_keepLit_81 : decode cX6_keepLit 81 = .ok (.istore 8, 2) := by decide +kernel
theorem dX6_keepLit_83 : decode cX6_keepLit 83 = .ok (.iload 8, 2) := by decide +kernel
theorem dX6_keepLit_85 : decode cX6_keepLit 85 = .ok (.aload_n 0, 1) := by decide +kernel
theorem dX6_keepLit_86 : decode cX6_keepLit 86 = .ok (.getfield 61, 3) := by decide +kernel
theorem dX6_keepLit_89 : decode cX6_keepLit 89 = .ok (.getfield 100, 3) := by decide +kernel
theorem dX6_keepLit_92 : decode cX6_keepLit 92 = .ok (.if_icmp .ge 70, 3) := by decide +kernel
theorem dX6_keepLit_95 : decode cX6_keepLit 95 = .ok (.aload_n 0, 1) := by decide +kernel
theorem dX6_keepLit_96 : decode cX6_keepLit 96 = .ok (.iload 6, 2) := by decide +kernel
theorem dX6_keepLit_98 : decode cX6_keepLit 98 = .ok (.iload 8, 2) := by decide +kernel
theorem dX6_keepLit_100 : decode cX6_keepLit 100 = .ok (.aload_n 0, 1) := by decide +kernel
theorem dX6_keepLit_101 : decode cX6_keepLit 101 = .ok (.getfield 61, 3) := by decide +kernel
theorem dX6_keepLit_104 : decode cX6_keepLit 104 = .ok (.iload 8, 2) := by decide +kernel
theorem dX6_keepLit_106 : decode cX6_keepLit 106 = .ok (.iload_n 1, 1) := by decide +kernel
theorem dX6_keepLit_107 : decode cX6_keepLit 107 = .ok (.iload_n 2, 1) := by decide +kernel
theorem dX6_keepLit_108 : decode cX6_keepLit 108 = .ok (.invokevirtual 204, 3) := by decide +kernel
theorem dX6_keepLit_111 : decode cX6_keepLit 111 = .ok (.lload 4, 2) := by decide +kernel
theorem dX6_keepLit_113 : decode cX6_keepLit 113 = .ok (.invokevirtual 208, 3) := by decide +kernel
theorem dX6_keepLit_116 : decode cX6_keepLit 116 = .ok (.istore 9, 2) := by decide +kernel
theorem dX6_keepLit_118 : decode cX6_keepLit 118 = .ok (.iload 8, 2) := by decide +kernel
theorem dX6_keepLit_120 : decode cX6_keepLit 120 = .ok (.iload_n 3, 1) := by decide +kernel
theorem dX6_keepLit_121 : decode cX6_keepLit 121 = .ok (.if_icmp .ne 6, 3) := by decide +kernel
theorem dX6_keepLit_124 : decode cX6_keepLit 124 = .ok (.iload 9, 2) := by decide +kernel
theorem dX6_keepLit_126 : decode cX6_keepLit 126 = .ok (.ireturn, 1) := by decide +kernel
theorem dX6_keepLit_127 : decode cX6_keepLit 127 = .ok (.aload_n 0, 1) := by decide +kernel
theorem dX6_keepLit_128 : decode cX6_keepLit 128 = .ok (.getfield 45, 3) := by decide +kernel
theorem dX6_keepLit_131 : decode cX6_keepLit 131 = .ok (.getfield 106, 3) := by decide +kernel
theorem dX6_keepLit_134 : decode cX6_keepLit 134 = .ok (.iload 9, 2) := by decide +kernel
theorem dX6_keepLit_136 : decode cX6_keepLit 136 = .ok (.invokevirtual 109, 3) := by decide +kernel
theorem dX6_keepLit_139 : decode cX6_keepLit 139 = .ok (.iload 8, 2) := by decide +kernel
theorem dX6_keepLit_141 : decode cX6_keepLit 141 = .ok (.if_icmp .eq 6, 3) := by decide +kernel
theorem dX6_keepLit_144 : decode cX6_keepLit 144 = .ok (.iinc 7 1, 3) := by decide +kernel
theorem dX6_keepLit_147 : decode cX6_keepLit 147 = .ok (.iload 6, 2) := by decide +kernel
theorem dX6_keepLit_149 : decode cX6_keepLit 149 = .ok (.iconst 1, 1) := by decide +kernel
theorem dX6_keepLit_150 : decode cX6_keepLit 150 = .ok (.iload 9, 2) := by decide +kernel
theorem dX6_keepLit_152 : decode cX6_keepLit 152 = .ok (.ishl, 1) := by decide +kernel
theorem dX6_keepLit_153 : decode cX6_keepLit 153 = .ok (.ior, 1) := by decide +kernel
theorem dX6_keepLit_154 : decode cX6_keepLit 154 = .ok (.istore 6, 2) := by decide +kernel
theorem dX6_keepLit_156 : decode cX6_keepLit 156 = .ok (.iinc 8 1, 3) := by decide +kernel
theorem dX6_keepLit_159 : decode cX6_keepLit 159 = .ok (.goto (-76), 3) := by decide +kernel
theorem dX6_keepLit_162 : decode cX6_keepLit 162 = .ok (.iload 7, 2) := by decide +kernel
theorem dX6_keepLit_164 : decode cX6_keepLit 164 = .ok (.ireturn, 1) := by decide +kernel
set_option maxRecDepth 20000 in
theorem ggX6_oil_X6_isSet : GoodIn wsX6_oil wsX6_isSet := goodIn_r _ [12, 1, 67, 68, 69, 70, 71, 72, 73, 74, 75, 76, 77, 78, 84, 85, 86, 87, 88, 89, 90, 91, 92, 93, 94] (by decide +kernel) (by decide +kernel)
set_option maxRecDepth 20000 in
theorem gX6_oil_X6_isSet : GoodIn wsX6_oil (wsV RX6 197 RX6 yX6_isSet wsX6_isSet) := goodIn_app (goodIn_of _ (by decide +kernel)) ggX6_oil_X6_isSet
set_option maxRecDepth 20000 in
theorem ggX6_oil_X5_reckonDraughts : GoodIn wsX6_oil wsX5_reckonDraughts := goodIn_r _ [17, 18, 19, 20, 21, 22, 23, 24, 6, 25, 26, 27, 28, 29, 30, 31, 32, 33, 34, 35, 36, 37, 38, 16, 39, 40, 41, 42, 43, 44, 45, 46, 47, 48, 84, 85, 86, 87, 88, 89, 90, 91, 92, 93, 94, 95] (by decide +kernel) (by decide +kernel)
set_option maxRecDepth 20000 in
theorem gX6_oil_X5_reckonDraughts : GoodIn wsX6_oil (wsV RX6 146 RX5 yX5_reckonDraughts wsX5_reckonDraughts) := goodIn_app (goodIn_of _ (by decide +kernel)) ggX6_oil_X5_reckonDraughts
set_option maxRecDepth 20000 in
theorem ggX6_oil_X5_bellsNeeded : GoodIn wsX6_oil wsX5_bellsNeeded := goodIn_r _ [52, 40, 41, 42, 43, 16, 44, 18, 45, 46, 47, 48, 84, 85, 86, 87, 88, 89, 90, 91, 92, 93, 94] (by decide +kernel) (by decide +kernel)
set_option maxRecDepth 20000 in
theorem gX6_oil_X5_bellsNeeded : GoodIn wsX6_oil (wsV RX6 204 RX5 yX5_bellsNeeded wsX5_bellsNeeded) := goodIn_app (goodIn_of _ (by decide +kernel)) ggX6_oil_X5_bellsNeeded
set_option maxRecDepth 20000 in
theorem ggX6_oil_X1_lanternAt : GoodIn wsX6_oil wsX1_lanternAt := goodIn_r _ [57, 58, 59, 60, 33, 34, 29, 35, 31, 79, 80, 81, 82, 83, 95] (by decide +kernel) (by decide +kernel)
set_option maxRecDepth 20000 in
theorem gX6_oil_X1_lanternAt : GoodIn wsX6_oil (wsV RX6 125 RX1 yX1_lanternAt wsX1_lanternAt) := goodIn_app (goodIn_of _ (by decide +kernel)) ggX6_oil_X1_lanternAt
set_option maxRecDepth 20000 in
theorem ggX6_oil_X1_isLit : GoodIn wsX6_oil wsX1_isLit := goodIn_r _ [64, 65, 79, 80, 81, 82, 83] (by decide +kernel) (by decide +kernel)
set_option maxRecDepth 20000 in
theorem gX6_oil_X1_isLit : GoodIn wsX6_oil (wsV RX6 116 RX1 yX1_isLit wsX1_isLit) := goodIn_app (goodIn_of _ (by decide +kernel)) ggX6_oil_X1_isLit
set_option maxRecDepth 20000 in
theorem ggX6_oil_X3_get : GoodIn wsX6_oil wsX3_get := goodIn_r _ [35, 31, 95] (by decide +kernel) (by decide +kernel)
set_option maxRecDepth 20000 in
theorem gX6_oil_X3_get : GoodIn wsX6_oil (wsV RX6 109 RX3 yX3_get wsX3_get) := goodIn_app (goodIn_of _ (by decide +kernel)) ggX6_oil_X3_get
theorem dX6_oil_0 : decode cX6_oil 0 = .ok (.aload_n 0, 1) := by decide +kernel
theorem dX6_oil_1 : decode cX6_oil 1 = .ok (.iload_n 1, 1) := by decide +kernel
theorem dX6_oil_2 : decode cX6_oil 2 = .ok (.invokevirtual 197, 3) := by decide +kernel
theorem dX6_oil_5 : decode cX6_oil 5 = .ok (.ifCond .eq 13, 3) := by decide +kernel
theorem dX6_oil_8 : decode cX6_oil 8 = .ok (.iload_n 2, 1) := by decide +kernel
theorem dX6_oil_9 : decode cX6_oil 9 = .ok (.ifCond .lt 9, 3) := by decide +kernel
theorem dX6_oil_12 : decode cX6_oil 12 = .ok (.iload_n 2, 1) := by decide +kernel
theorem dX6_oil_13 : decode cX6_oil 13 = .ok (.bipush 20, 2) := by decide +kernel
theorem dX6_oil_15 : decode cX6_oil 15 = .ok (.if_icmp .le 5, 3) := by decide +kernel
theorem dX6_oil_18 : decode cX6_oil 18 = .ok (.iconst (-1), 1) := by decide +kernel
theorem dX6_oil_19 : decode cX6_oil 19 = .ok (.ireturn, 1) := by decide +kernel
theorem dX6_oil_20 : decode cX6_oil 20 = .ok (.aload_n 0, 1) := by decide +kernel
theorem dX6_oil_21 : decode cX6_oil 21 = .ok (.getfield 61, 3) := by decide +kernel
theorem dX6_oil_24 : decode cX6_oil 24 = .ok (.aload_n 0, 1) := by decide +kernel
theorem dX6_oil_25 : decode cX6_oil 25 = .ok (.getfield 45, 3) := by decide +kernel
theorem dX6_oil_28 : decode cX6_oil 28 = .ok (.getfield 143, 3) := by decide +kernel
theorem dX6_oil_31 : decode cX6_oil 31 = .ok (.aload_n 0, 1) := by decide +kernel
theorem dX6_oil_32 : decode cX6_oil 32 = .ok (.getfield 52, 3) := by decide +kernel
theorem dX6_oil_35 : decode cX6_oil 35 = .ok (.invokevirtual 146, 3) := by decide +kernel
theorem dX6_oil_38 : decode cX6_oil 38 = .ok (.iconst 0, 1) := by decide +kernel
theorem dX6_oil_39 : decode cX6_oil 39 = .ok (.istore_n 3, 1) := by decide +kernel
theorem dX6_oil_40 : decode cX6_oil 40 = .ok (.iconst 0, 1) := by decide +kernel
theorem dX6_oil_41 : decode cX6_oil 41 = .ok (.istore 4, 2) := by decide +kernel
theorem dX6_oil_43 : decode cX6_oil 43 = .ok (.iload 4, 2) := by decide +kernel
theorem dX6_oil_45 : decode cX6_oil 45 = .ok (.aload_n 0, 1) := by decide +kernel
theorem dX6_oil_46 : decode cX6_oil 46 = .ok (.getfield 61, 3) := by decide +kernel
theorem dX6_oil_49 : decode cX6_oil 49 = .ok (.getfield 100, 3) := by decide +kernel
theorem dX6_oil_52 : decode cX6_oil 52 = .ok (.if_icmp .ge 89, 3) := by decide +kernel
theorem dX6_oil_55 : decode cX6_oil 55 = .ok (.aload_n 0, 1) := by decide +kernel
theorem dX6_oil_56 : decode cX6_oil 56 = .ok (.getfield 61, 3) := by decide +kernel
theorem dX6_oil_59 : decode cX6_oil 59 = .ok (.iload 4, 2) := by decide +kernel
theorem dX6_oil_61 : decode cX6_oil 61 = .ok (.iload_n 1, 1) := by decide +kernel
theorem dX6_oil_62 : decode cX6_oil 62 = .ok (.iload_n 2, 1) := by decide +kernel
theorem dX6_oil_63 : decode cX6_oil 63 = .ok (.invokevirtual 204, 3) := by decide +kernel
theorem dX6_oil_66 : decode cX6_oil 66 = .ok (.istore 5, 2) := by decide +kernel
theorem dX6_oil_68 : decode cX6_oil 68 = .ok (.aload_n 0, 1) := by decide +kernel
theorem dX6_oil_69 : decode cX6_oil 69 = .ok (.getfield 45, 3) := by decide +kernel
theorem dX6_oil_72 : decode cX6_oil 72 = .ok (.iload 4, 2) := by decide +kernel
theorem dX6_oil_74 : decode cX6_oil 74 = .ok (.invokevirtual 125, 3) := by decide +kernel
theorem dX6_oil_77 : decode cX6_oil 77 = .ok (.istore 6, 2) := by decide +kernel
theorem dX6_oil_79 : decode cX6_oil 79 = .ok (.iload 5, 2) := by decide +kernel
theorem dX6_oil_81 : decode cX6_oil 81 = .ok (.ifCond .le 32, 3) := by decide +kernel
theorem dX6_oil_84 : decode cX6_oil 84 = .ok (.aload_n 0, 1) := by decide +kernel
theorem dX6_oil_85 : decode cX6_oil 85 = .ok (.getfield 45, 3) := by decide +kernel
theorem dX6_oil_88 : decode cX6_oil 88 = .ok (.iload 6, 2) := by decide +kernel
theorem dX6_oil_90 : decode cX6_oil 90 = .ok (.invokevirtual 116, 3) := by decide +kernel
theorem dX6_oil_93 : decode cX6_oil 93 = .ok (.ifCond .eq 17, 3) := by decide +kernel
theorem dX6_oil_96 : decode cX6_oil 96 = .ok (.aload_n 0, 1) := by decide +kernel
theorem dX6_oil_97 : decode cX6_oil 97 = .ok (.getfield 52, 3) := by decide +kernel
theorem dX6_oil_100 : decode cX6_oil 100 = .ok (.iload 4, 2) := by decide +kernel
theorem dX6_oil_102 : decode cX6_oil 102 = .ok (.invokevirtual 109, 3) := by decide +kernel
theorem dX6_oil_105 : decode cX6_oil 105 = .ok (.iload 5, 2) := by decide +kernel
theorem dX6_oil_107 : decode cX6_oil 107 = .ok (.if_icmp .ge 6, 3) := by decide +kernel
theorem dX6_oil_110 : decode cX6_oil 110 = .ok (.bipush (-4), 2) := by decide +kernel
theorem dX6_oil_112 : decode cX6_oil 112 = .ok (.ireturn, 1) := by decide +kernel
theorem dX6_oil_113 : decode cX6_oil 113 = .ok (.iload_n 3, 1) := by decide +kernel
theorem dX6_oil_114 : decode cX6_oil 114 = .ok (.iconst 0, 1) := by decide +kernel
theorem dX6_oil_115 : decode cX6_oil 115 = .ok (.iload 5, 2) := by decide +kernel
theorem dX6_oil_117 : decode cX6_oil 117 = .ok (.aload_n 0, 1) := by decide +kernel
theorem dX6_oil_118 : decode cX6_oil 118 = .ok (.getfield 45, 3) := by decide +kernel
theorem dX6_oil_121 : decode cX6_oil 121 = .ok (.getfield 113, 3) := by decide +kernel
theorem dX6_oil_124 : decode cX6_oil 124 = .ok (.iload 6, 2) := by decide +kernel
theorem dX6_oil_126 : decode cX6_oil 126 = .ok (.invokevirtual 109, 3) := by decide +kernel
theorem dX6_oil_129 : decode cX6_oil 129 = .ok (.isub, 1) := by decide +kernel
theorem dX6_oil_130 : decode cX6_oil 130 = .ok (.invokestatic 212, 3) := by decide +kernel
theorem dX6_oil_133 : decode cX6_oil 133 = .ok (.iadd, 1) := by decide +kernel
theorem dX6_oil_134 : decode cX6_oil 134 = .ok (.istore_n 3, 1) := by decide +kernel
theorem dX6_oil_135 : decode cX6_oil 135 = .ok (.iinc 4 1, 3) := by decide +kernel
theorem dX6_oil_138 : decode cX6_oil 138 = .ok (.goto (-95), 3) := by decide +kernel
theorem dX6_oil_141 : decode cX6_oil 141 = .ok (.iload_n 3, 1) := by decide +kernel
theorem dX6_oil_142 : decode cX6_oil 142 = .ok (.ireturn, 1) := by decide +kernel
set_option maxRecDepth 20000 in
theorem ggX6_night_X5_reckonDraughts : GoodIn wsX6_night wsX5_reckonDraughts := goodIn_r _ [13, 14, 15, 16, 17, 18, 19, 5, 6, 7, 20, 21, 22, 23, 24, 25, 26, 27, 28, 29, 30, 31, 32, 12, 33, 34, 35, 36, 37, 38, 39, 40, 41, 42, 117, 118, 119, 120, 121, 122, 123, 124, 125, 126, 127, 128] (by decide +kernel) (by decide +kernel)
set_option maxRecDepth 20000 in
theorem gX6_night_X5_reckonDraughts : GoodIn wsX6_night (wsV RX6 146 RX5 yX5_reckonDraughts wsX5_reckonDraughts) := goodIn_app (goodIn_of _ (by decide +kernel)) ggX6_night_X5_reckonDraughts
set_option maxRecDepth 20000 in
theorem ggX6_night_X6_drawOf : GoodIn wsX6_night wsX6_drawOf := goodIn_r _ [46, 47, 48, 49] (by decide +kernel) (by decide +kernel)
set_option maxRecDepth 20000 in
theorem gX6_night_X6_drawOf : GoodIn wsX6_night (va_wsS RX6 217 yX6_drawOf wsX6_drawOf) := goodIn_app (goodIn_of _ (by decide +kernel)) ggX6_night_X6_drawOf
set_option maxRecDepth 20000 in
theorem ggX6_night_X5_round : GoodIn wsX6_night wsX5_round := goodIn_r _ [38, 14, 39, 40, 41, 42, 117, 118, 119, 120, 121, 122, 123, 124, 125, 126, 127] (by decide +kernel) (by decide +kernel)
set_option maxRecDepth 20000 in
theorem gX6_night_X5_round : GoodIn wsX6_night (wsV RX6 172 RX5 yX5_round wsX5_round) := goodIn_app (goodIn_of _ (by decide +kernel)) ggX6_night_X5_round
set_option maxRecDepth 20000 in
theorem ggX6_night_X5_postBefore : GoodIn wsX6_night wsX5_postBefore := goodIn_r _ [33, 34, 35, 36, 37, 12, 38, 14, 39, 40, 41, 42, 117, 118, 119, 120, 121, 122, 123, 124, 125, 126, 127] (by decide +kernel) (by decide +kernel)
set_option maxRecDepth 20000 in
theorem gX6_night_X5_postBefore : GoodIn wsX6_night (wsV RX6 220 RX5 yX5_postBefore wsX5_postBefore) := goodIn_app (goodIn_of _ (by decide +kernel)) ggX6_night_X5_postBefore
set_option maxRecDepth 20000 in
theorem ggX6_night_X3_get : GoodIn wsX6_night wsX3_get := goodIn_r _ [29, 25, 128] (by decide +kernel) (by decide +kernel)
set_option maxRecDepth 20000 in
theorem gX6_night_X3_get : GoodIn wsX6_night (wsV RX6 109 RX3 yX3_get wsX3_get) := goodIn_app (goodIn_of _ (by decide +kernel)) ggX6_night_X3_get
set_option maxRecDepth 20000 in
theorem ggX6_night_X3_set : GoodIn wsX6_night wsX3_set := goodIn_r _ [24, 25, 128] (by decide +kernel) (by decide +kernel)
set_option maxRecDepth 20000 in
theorem gX6_night_X3_set : GoodIn wsX6_night (wsV RX6 84 RX3 yX3_set wsX3_set) := goodIn_app (goodIn_of _ (by decide +kernel)) ggX6_night_X3_set
set_option maxRecDepth 20000 in
theorem ggX6_night_X1_copy : GoodIn wsX6_night wsX1_copy := goodIn_r _ [58, 59, 60, 61, 62, 63, 64, 65, 66, 23, 67, 25, 68, 27, 28, 29, 112, 113, 114, 115, 116, 128] (by decide +kernel) (by decide +kernel)
set_option maxRecDepth 20000 in
theorem gX6_night_X1_copy : GoodIn wsX6_night (wsV RX6 226 RX1 yX1_copy wsX1_copy) := goodIn_app (goodIn_of _ (by decide +kernel)) ggX6_night_X1_copy
set_option maxRecDepth 20000 in
theorem ggX6_night_X1_goOn : GoodIn wsX6_night wsX1_goOn := goodIn_r _ [72, 59, 60, 61, 73, 5, 6, 7, 62, 63, 74, 27, 28, 23, 29, 25, 75, 76, 77, 57, 78, 79, 80, 81, 82, 83, 21, 22, 24, 84, 36, 37, 12, 38, 14, 39, 40, 41, 42, 112, 113, 114, 115, 116, 117, 118, 119, 120, 121, 122, 123, 124, 125, 126, 127, 128] (by decide +kernel) (by decide +kernel)
set_option maxRecDepth 20000 in
theorem gX6_night_X1_goOn : GoodIn wsX6_night (wsV RX6 150 RX1 yX1_goOn wsX1_goOn) := goodIn_app (goodIn_of _ (by decide +kernel)) ggX6_night_X1_goOn
set_option maxRecDepth 20000 in
theorem ggX6_night_X1_litCount : GoodIn wsX6_night wsX1_litCount := goodIn_r _ [88, 62, 89, 90, 91, 92, 93, 94, 95, 112, 113, 114, 115, 116] (by decide +kernel) (by decide +kernel)
set_option maxRecDepth 20000 in
theorem gX6_night_X1_litCount : GoodIn wsX6_night (wsV RX6 139 RX1 yX1_litCount wsX1_litCount) := goodIn_app (goodIn_of _ (by decide +kernel)) ggX6_night_X1_litCount
set_option maxRecDepth 20000 in
theorem ggX6_night_X1_oilInAll : GoodIn wsX6_night wsX1_oilInAll := goodIn_r _ [99, 59, 61, 74, 27, 28, 23, 29, 25, 112, 113, 114, 115, 116, 128] (by decide +kernel) (by decide +kernel)
set_option maxRecDepth 20000 in
theorem gX6_night_X1_oilInAll : GoodIn wsX6_night (wsV RX6 229 RX1 yX1_oilInAll wsX1_oilInAll) := goodIn_app (goodIn_of _ (by decide +kernel)) ggX6_night_X1_oilInAll
theorem dX6_night_0 : decode cX6_night 0 = .ok (.iload_n 1, 1) := by decide +kernel
theorem dX6_night_1 : decode cX6_night 1 = .ok (.ifCond .lt 30, 3) := by decide +kernel
theorem dX6_night_4 : decode cX6_night 4 = .ok (.iload_n 1, 1) := by decide +kernel
theorem dX6_night_5 : decode cX6_night 5 = .ok (.sipush 9999, 3) := by decide +kernel
theorem dX6_night_8 : decode cX6_night 8 = .ok (.if_icmp .gt 23, 3) := by decide +kernel
theorem dX6_night_11 : decode cX6_night 11 = .ok (.iload_n 2, 1) := by decide +kernel
theorem dX6_night_12 : decode cX6_night 12 = .ok (.iconst 1, 1) := by decide +kernel
theorem dX6_night_13 : decode cX6_night 13 = .ok (.if_icmp .lt 18, 3) := by decide +kernel
theorem dX6_night_16 : decode cX6_night 16 = .ok (.iload_n 2, 1) := by decide +kernel
theorem dX6_night_17 : decode cX6_night 17 = .ok (.bipush 60, 2) := by decide +kernel
theorem dX6_night_19 : decode cX6_night 19 = .ok (.if_icmp .gt 12, 3) := by decide +kernel
theorem dX6_night_22 : decode cX6_night 22 = .ok (.iload_n 3, 1) := by decide +kernel
theorem dX6_night_23 : decode cX6_night 23 = .ok (.ifCond .lt 8, 3) := by decide +kernel
theorem dX6_night_26 : decode cX6_night 26 = .ok (.iload_n 3, 1) := by decide +kernel
theorem dX6_night_27 : decode cX6_night 27 = .ok (.iconst 1, 1) := by decide +kernel
theorem dX6_night_28 : decode cX6_night 28 = .ok (.if_icmp .le 5, 3) := by decide +kernel
theorem dX6_night_31 : decode cX6_night 31 = .ok (.iconst (-1), 1) := by decide +kernel
theorem dX6_night_32 : decode cX6_night 32 = .ok (.ireturn, 1) := by decide +kernel
theorem dX6_night_33 : decode cX6_night 33 = .ok (.aload_n 0, 1) := by decide +kernel
theorem dX6_night_34 : decode cX6_night 34 = .ok (.getfield 61, 3) := by decide +kernel
theorem dX6_night_37 : decode cX6_night 37 = .ok (.aload_n 0, 1) := by decide +kernel
theorem dX6_night_38 : decode cX6_night 38 = .ok (.getfield 45, 3) := by decide +kernel
theorem dX6_night_41 : decode cX6_night 41 = .ok (.getfield 143, 3) := by decide +kernel
theorem dX6_night_44 : decode cX6_night 44 = .ok (.aload_n 0, 1) := by decide +kernel
theorem dX6_night_45 : decode cX6_night 45 = .ok (.getfield 52, 3) := by decide +kernel
theorem dX6_night_48 : decode cX6_night 48 = .ok (.invokevirtual 146, 3) := by decide +kernel
theorem dX6_night_51 : decode cX6_night 51 = .ok (.iconst 1, 1) := by decide +kernel
theorem dX6_night_52 : decode cX6_night 52 = .ok (.istore 4, 2) := by decide +kernel
theorem dX6_night_54 : decode cX6_night 54 = .ok (.iload 4, 2) := by decide +kernel
theorem dX6_night_56 : decode cX6_night 56 = .ok (.iload_n 2, 1) := by decide +kernel
theorem dX6_night_57 : decode cX6_night 57 = .ok (.if_icmp .gt 70, 3) := by decide +kernel
theorem dX6_night_60 : decode cX6_night 60 = .ok (.iload_n 1, 1) := by decide +kernel
theorem dX6_night_61 : decode cX6_night 61 = .ok (.iload 4, 2) := by decide +kernel
theorem dX6_night_63 : decode cX6_night 63 = .ok (.invokestatic 217, 3) := by decide +kernel
theorem dX6_night_66 : decode cX6_night 66 = .ok (.istore 5, 2) := by decide +kernel
theorem dX6_night_68 : decode cX6_night 68 = .ok (.iload 5, 2) := by decide +kernel
theorem dX6_night_70 : decode cX6_night 70 = .ok (.bipush 8, 2) := by decide +kernel
theorem dX6_night_72 : decode cX6_night 72 = .ok (.idiv, 1) := by decide +kernel
theorem dX6_night_73 : decode cX6_night 73 = .ok (.iconst 4, 1) := by decide +kernel
theorem dX6_night_74 : decode cX6_night 74 = .ok (.irem, 1) := by decide +kernel
theorem dX6_night_75 : decode cX6_night 75 = .ok (.ifCond .ne 46, 3) := by decide +kernel
theorem dX6_night_78 : decode cX6_night 78 = .ok (.aload_n 0, 1) := by decide +kernel
theorem dX6_night_79 : decode cX6_night 79 = .ok (.getfield 61, 3) := by decide +kernel
theorem dX6_night_82 : decode cX6_night 82 = .ok (.aload_n 0, 1) := by decide +kernel
theorem dX6_night_83 : decode cX6_night 83 = .ok (.getfield 61, 3) := by decide +kernel
theorem dX6_night_86 : decode cX6_night 86 = .ok (.iload 5, 2) := by decide +kernel
theorem dX6_night_88 : decode cX6_night 88 = .ok (.invokevirtual 172, 3) := by decide +kernel
theorem dX6_night_91 : decode cX6_night 91 = .ok (.iload 4, 2) := by decide +kernel
theorem dX6_night_93 : decode cX6_night 93 = .ok (.invokevirtual 220, 3) := by decide +kernel
theorem dX6_night_96 : decode cX6_night 96 = .ok (.istore 6, 2) := by decide +kernel
theorem dX6_night_98 : decode cX6_night 98 = .ok (.aload_n 0, 1) := by decide +kernel
theorem dX6_night_99 : decode cX6_night 99 = .ok (.getfield 52, 3) := by decide +kernel
theorem dX6_night_102 : decode cX6_night 102 = .ok (.iload 6, 2) := by decide +kernel
theorem dX6_night_104 : decode cX6_night 104 = .ok (.iload 4, 2) := by decide +kernel
theorem dX6_night_106 : decode cX6_night 106 = .ok (.aload_n 0, 1) := by decide +kernel
theorem dX6_night_107 : decode cX6_night 107 = .ok (.getfield 52, 3) := by decide +kernel
theorem dX6_night_110 : decode cX6_night 110 = .ok (.iload 6, 2) := by decide +kernel
theorem dX6_night_112 : decode cX6_night 112 = .ok (.invokevirtual 109, 3) := by decide +kernel
theorem dX6_night_115 : decode cX6_night 115 = .ok (.invokestatic 223, 3) := by decide +kernel
theorem dX6_night_118 : decode cX6_night 118 = .ok (.invokevirtual 84, 3) := by decide +kernel
theorem dX6_night_121 : decode cX6_night 121 = .ok (.iinc 4 1, 3) := by decide +kernel
theorem dX6_night_124 : decode cX6_night 124 = .ok (.goto (-70), 3) := by decide +kernel
theorem dX6_night_127 : decode cX6_night 127 = .ok (.aload_n 0, 1) := by decide +kernel
theorem dX6_night_128 : decode cX6_night 128 = .ok (.getfield 49, 3) := by decide +kernel
theorem dX6_night_131 : decode cX6_night 131 = .ok (.aload_n 0, 1) := by decide +kernel
theorem dX6_night_132 : decode cX6_night 132 = .ok (.getfield 45, 3) := by decide +kernel
theorem dX6_night_135 : decode cX6_night 135 = .ok (.invokevirtual 226, 3) := by decide +kernel
theorem dX6_night_138 : decode cX6_night 138 = .ok (.aload_n 0, 1) := by decide +kernel
theorem dX6_night_139 : decode cX6_night 139 = .ok (.getfield 49, 3) := by decide +kernel
theorem dX6_night_142 : decode cX6_night 142 = .ok (.aload_n 0, 1) := by decide +kernel
theorem dX6_night_143 : decode cX6_night 143 = .ok (.getfield 61, 3) := by decide +kernel
theorem dX6_night_146 : decode cX6_night 146 = .ok (.iload_n 2, 1) := by decide +kernel
theorem dX6_night_147 : decode cX6_night 147 = .ok (.aload_n 0, 1) := by decide +kernel
theorem dX6_night_148 : decode cX6_night 148 = .ok (.getfield 52, 3) := by decide +kernel
theorem dX6_night_151 : decode cX6_night 151 = .ok (.invokevirtual 150, 3) := by decide +kernel
theorem dX6_night_154 : decode cX6_night 154 = .ok (.iload_n 3, 1) := by decide +kernel
theorem dX6_night_155 : decode cX6_night 155 = .ok (.ifCond .ne 13, 3) := by decide +kernel
theorem dX6_night_158 : decode cX6_night 158 = .ok (.aload_n 0, 1) := by decide +kernel
theorem dX6_night_159 : decode cX6_night 159 = .ok (.getfield 49, 3) := by decide +kernel
theorem dX6_night_162 : decode cX6_night 162 = .ok (.invokevirtual 139, 3) := by decide +kernel
theorem dX6_night_165 : decode cX6_night 165 = .ok (.goto 10, 3) := by decide +kernel
theorem dX6_night_168 : decode cX6_night 168 = .ok (.aload_n 0, 1) := by decide +kernel
theorem dX6_night_169 : decode cX6_night 169 = .ok (.getfield 49, 3) := by decide +kernel
theorem dX6_night_172 : decode cX6_night 172 = .ok (.invokevirtual 229, 3) := by decide +kernel
theorem dX6_night_175 : decode cX6_night 175 = .ok (.ireturn, 1) := by decide +kernel
set_option maxRecDepth 20000 in
theorem ggX6_keep_X4_put : GoodIn wsX6_keep wsX4_put := goodIn_r _ [7, 8, 9, 10, 11, 12, 6, 13, 14, 15, 16, 17, 18, 19, 20, 21, 22, 23, 24, 25, 26, 27, 28, 29, 30, 31, 32, 33, 46, 47, 48, 49, 50, 51, 52, 53] (by decide +kernel) (by decide +kernel)
set_option maxRecDepth 20000 in
theorem gX6_keep_X4_put : GoodIn wsX6_keep (wsV RX6 132 RX4 yX4_put wsX4_put) := goodIn_app (goodIn_of _ (by decide +kernel)) ggX6_keep_X4_put
theorem dX6_keep_0 : decode cX6_keep 0 = .ok (.aload_n 0, 1) := by decide +kernel
theorem dX6_keep_1 : decode cX6_keep 1 = .ok (.getfield 39, 3) := by decide +kernel
theorem dX6_keep_4 : decode cX6_keep 4 = .ok (.getfield 158, 3) := by decide +kernel
theorem dX6_keep_7 : decode cX6_keep 7 = .ok (.iconst 2, 1) := by decide +kernel
theorem dX6_keep_8 : decode cX6_keep 8 = .ok (.if_icmp .lt 6, 3) := by decide +kernel
theorem dX6_keep_11 : decode cX6_keep 11 = .ok (.bipush (-3), 2) := by decide +kernel
theorem dX6_keep_13 : decode cX6_keep 13 = .ok (.ireturn, 1) := by decide +kernel
theorem dX6_keep_14 : decode cX6_keep 14 = .ok (.aload_n 0, 1) := by decide +kernel
theorem dX6_keep_15 : decode cX6_keep 15 = .ok (.getfield 39, 3) := by decide +kernel
theorem dX6_keep_18 : decode cX6_keep 18 = .ok (.aload_n 0, 1) := by decide +kernel
theorem dX6_keep_19 : decode cX6_keep 19 = .ok (.getfield 45, 3) := by decide +kernel
theorem dX6_keep_22 : decode cX6_keep 22 = .ok (.invokevirtual 132, 3) := by decide +kernel
theorem dX6_keep_25 : decode cX6_keep 25 = .ok (.aload_n 0, 1) := by decide +kernel
theorem dX6_keep_26 : decode cX6_keep 26 = .ok (.getfield 39, 3) := by decide +kernel
theorem dX6_keep_29 : decode cX6_keep 29 = .ok (.getfield 158, 3) := by decide +kernel
theorem dX6_keep_32 : decode cX6_keep 32 = .ok (.ireturn, 1) := by decide +kernel
set_option maxRecDepth 20000 in
theorem ggX6_back_X4_takeLast : GoodIn wsX6_back wsX4_takeLast := goodIn_r _ [8, 9, 10, 11, 12, 13, 14, 15, 16, 17, 18, 19, 20, 21, 22, 23, 24, 25, 26, 27, 28, 29, 30, 47, 48, 49, 50, 51, 52, 53, 54] (by decide +kernel) (by decide +kernel)
set_option maxRecDepth 20000 in
theorem gX6_back_X4_takeLast : GoodIn wsX6_back (wsV RX6 154 RX4 yX4_takeLast wsX4_takeLast) := goodIn_app (goodIn_of _ (by decide +kernel)) ggX6_back_X4_takeLast
set_option maxRecDepth 20000 in
theorem ggX6_back_X4_clear : GoodIn wsX6_back wsX4_clear := goodIn_r _ [34, 9, 47, 48] (by decide +kernel) (by decide +kernel)
set_option maxRecDepth 20000 in
theorem gX6_back_X4_clear : GoodIn wsX6_back (wsV RX6 99 RX4 yX4_clear wsX4_clear) := goodIn_app (goodIn_of _ (by decide +kernel)) ggX6_back_X4_clear
theorem dX6_back_0 : decode cX6_back 0 = .ok (.aload_n 0, 1) := by decide +kernel
theorem dX6_back_1 : decode cX6_back 1 = .ok (.getfield 39, 3) := by decide +kernel
theorem dX6_back_4 : decode cX6_back 4 = .ok (.aload_n 0, 1) := by decide +kernel
theorem dX6_back_5 : decode cX6_back 5 = .ok (.getfield 45, 3) := by decide +kernel
theorem dX6_back_8 : decode cX6_back 8 = .ok (.invokevirtual 154, 3) := by decide +kernel
theorem dX6_back_11 : decode cX6_back 11 = .ok (.ifCond .ne 6, 3) := by decide +kernel
theorem dX6_back_14 : decode cX6_back 14 = .ok (.bipush (-2), 2) := by decide +kernel
theorem dX6_back_16 : decode cX6_back 16 = .ok (.ireturn, 1) := by decide +kernel
theorem dX6_back_17 : decode cX6_back 17 = .ok (.aload_n 0, 1) := by decide +kernel
theorem dX6_back_18 : decode cX6_back 18 = .ok (.getfield 35, 3) := by decide +kernel
theorem dX6_back_21 : decode cX6_back 21 = .ok (.invokevirtual 99, 3) := by decide +kernel
theorem dX6_back_24 : decode cX6_back 24 = .ok (.aload_n 0, 1) := by decide +kernel
theorem dX6_back_25 : decode cX6_back 25 = .ok (.getfield 39, 3) := by decide +kernel
theorem dX6_back_28 : decode cX6_back 28 = .ok (.getfield 158, 3) := by decide +kernel
theorem dX6_back_31 : decode cX6_back 31 = .ok (.ireturn, 1) := by decide +kernel
set_option maxRecDepth 20000 in
theorem ggX6_count_X1_litCount : GoodIn wsX6_count wsX1_litCount := goodIn_r _ [11, 12, 13, 14, 15, 16, 17, 18, 19, 55, 56, 57, 58, 59] (by decide +kernel) (by decide +kernel)
set_option maxRecDepth 20000 in
theorem gX6_count_X1_litCount : GoodIn wsX6_count (wsV RX6 139 RX1 yX1_litCount wsX1_litCount) := goodIn_app (goodIn_of _ (by decide +kernel)) ggX6_count_X1_litCount
set_option maxRecDepth 20000 in
theorem ggX6_count_X1_oilInAll : GoodIn wsX6_count wsX1_oilInAll := goodIn_r _ [23, 24, 25, 26, 27, 28, 29, 30, 31, 55, 56, 57, 58, 59, 66] (by decide +kernel) (by decide +kernel)
set_option maxRecDepth 20000 in
theorem gX6_count_X1_oilInAll : GoodIn wsX6_count (wsV RX6 229 RX1 yX1_oilInAll wsX1_oilInAll) := goodIn_app (goodIn_of _ (by decide +kernel)) ggX6_count_X1_oilInAll
theorem dX6_count_0 : decode cX6_count 0 = .ok (.iload_n 1, 1) := by decide +kernel
theorem dX6_count_1 : decode cX6_count 1 = .ok (.tableswitch 108 0 7 #[47, 55, 63, 71, 79, 87, 95, 103], 47) := by decide +kernel
theorem dX6_count_48 : decode cX6_count 48 = .ok (.aload_n 0, 1) := by decide +kernel
theorem dX6_count_49 : decode cX6_count 49 = .ok (.getfield 61, 3) := by decide +kernel
theorem dX6_count_52 : decode cX6_count 52 = .ok (.getfield 100, 3) := by decide +kernel
theorem dX6_count_55 : decode cX6_count 55 = .ok (.ireturn, 1) := by decide +kernel
theorem dX6_count_56 : decode cX6_count 56 = .ok (.aload_n 0, 1) := by decide +kernel
theorem dX6_count_57 : decode cX6_count 57 = .ok (.getfield 45, 3) := by decide +kernel
theorem dX6_count_60 : decode cX6_count 60 = .ok (.getfield 143, 3) := by decide +kernel
theorem dX6_count_63 : decode cX6_count 63 = .ok (.ireturn, 1) := by decide +kernel
theorem dX6_count_64 : decode cX6_count 64 = .ok (.aload_n 0, 1) := by decide +kernel
theorem dX6_count_65 : decode cX6_count 65 = .ok (.getfield 45, 3) := by decide +kernel
theorem dX6_count_68 : decode cX6_count 68 = .ok (.invokevirtual 139, 3) := by decide +kernel
theorem dX6_count_71 : decode cX6_count 71 = .ok (.ireturn, 1) := by decide +kernel
theorem dX6_count_72 : decode cX6_count 72 = .ok (.aload_n 0, 1) := by decide +kernel
theorem dX6_count_73 : decode cX6_count 73 = .ok (.getfield 45, 3) := by decide +kernel
theorem dX6_count_76 : decode cX6_count 76 = .ok (.invokevirtual 229, 3) := by decide +kernel
theorem dX6_count_79 : decode cX6_count 79 = .ok (.ireturn, 1) := by decide +kernel
theorem dX6_count_80 : decode cX6_count 80 = .ok (.aload_n 0, 1) := by decide +kernel
theorem dX6_count_81 : decode cX6_count 81 = .ok (.getfield 28, 3) := by decide +kernel
theorem dX6_count_84 : decode cX6_count 84 = .ok (.getfield 175, 3) := by decide +kernel
theorem dX6_count_87 : decode cX6_count 87 = .ok (.ireturn, 1) := by decide +kernel
theorem dX6_count_88 : decode cX6_count 88 = .ok (.aload_n 0, 1) := by decide +kernel
theorem dX6_count_89 : decode cX6_count 89 = .ok (.getfield 35, 3) := by decide +kernel
theorem dX6_count_92 : decode cX6_count 92 = .ok (.getfield 158, 3) := by decide +kernel
theorem dX6_count_95 : decode cX6_count 95 = .ok (.ireturn, 1) := by decide +kernel
theorem dX6_count_96 : decode cX6_count 96 = .ok (.aload_n 0, 1) := by decide +kernel
theorem dX6_count_97 : decode cX6_count 97 = .ok (.getfield 39, 3) := by decide +kernel
theorem dX6_count_100 : decode cX6_count 100 = .ok (.getfield 158, 3) := by decide +kernel
theorem dX6_count_103 : decode cX6_count 103 = .ok (.ireturn, 1) := by decide +kernel
theorem dX6_count_104 : decode cX6_count 104 = .ok (.aload_n 0, 1) := by decide +kernel
theorem dX6_count_105 : decode cX6_count 105 = .ok (.getfield 80, 3) := by decide +kernel
theorem dX6_count_108 : decode cX6_count 108 = .ok (.ireturn, 1) := by decide +kernel
theorem dX6_count_109 : decode cX6_count 109 = .ok (.iconst (-1), 1) := by decide +kernel
theorem dX6_count_110 : decode cX6_count 110 = .ok (.ireturn, 1) := by decide +kernel
theorem dX6_isMan_0 : decode cX6_isMan 0 = .ok (.iload_n 1, 1) := by decide +kernel
theorem dX6_isMan_1 : decode cX6_isMan 1 = .ok (.ifCond .lt 18, 3) := by decide +kernel
theorem dX6_isMan_4 : decode cX6_isMan 4 = .ok (.iload_n 1, 1) := by decide +kernel
theorem dX6_isMan_5 : decode cX6_isMan 5 = .ok (.aload_n 0, 1) := by decide +kernel
theorem dX6_isMan_6 : decode cX6_isMan 6 = .ok (.getfield 61, 3) := by decide +kernel
theorem dX6_isMan_9 : decode cX6_isMan 9 = .ok (.getfield 100, 3) := by decide +kernel
theorem dX6_isMan_12 : decode cX6_isMan 12 = .ok (.if_icmp .ge 7, 3) := by decide +kernel
theorem dX6_isMan_15 : decode cX6_isMan 15 = .ok (.iconst 1, 1) := by decide +kernel
theorem dX6_isMan_16 : decode cX6_isMan 16 = .ok (.goto 4, 3) := by decide +kernel
theorem dX6_isMan_19 : decode cX6_isMan 19 = .ok (.iconst 0, 1) := by decide +kernel
theorem dX6_isMan_20 : decode cX6_isMan 20 = .ok (.ireturn, 1) := by decide +kernel
theorem dX6_isSet_0 : decode cX6_isSet 0 = .ok (.iload_n 1, 1) := by decide +kernel
theorem dX6_isSet_1 : decode cX6_isSet 1 = .ok (.ifCond .lt 20, 3) := by decide +kernel
theorem dX6_isSet_4 : decode cX6_isSet 4 = .ok (.iload_n 1, 1) := by decide +kernel
theorem dX6_isSet_5 : decode cX6_isSet 5 = .ok (.iconst 1, 1) := by decide +kernel
theorem dX6_isSet_6 : decode cX6_isSet 6 = .ok (.aload_n 0, 1) := by decide +kernel
theorem dX6_isSet_7 : decode cX6_isSet 7 = .ok (.getfield 61, 3) := by decide +kernel
theorem dX6_isSet_10 : decode cX6_isSet 10 = .ok (.getfield 100, 3) := by decide +kernel
theorem dX6_isSet_13 : decode cX6_isSet 13 = .ok (.ishl, 1) := by decide +kernel
theorem dX6_isSet_14 : decode cX6_isSet 14 = .ok (.if_icmp .ge 7, 3) := by decide +kernel
theorem dX6_isSet_17 : decode cX6_isSet 17 = .ok (.iconst 1, 1) := by decide +kernel
theorem dX6_isSet_18 : decode cX6_isSet 18 = .ok (.goto 4, 3) := by decide +kernel
theorem dX6_isSet_21 : decode cX6_isSet 21 = .ok (.iconst 0, 1) := by decide +kernel
theorem dX6_isSet_22 : decode cX6_isSet 22 = .ok (.ireturn, 1) := by decide +kernel
theorem dX6_isLastBell_0 : decode cX6_isLastBell 0 = .ok (.iload_n 0, 1) := by decide +kernel
theorem dX6_isLastBell_1 : decode cX6_isLastBell 1 = .ok (.ifCond .lt 13, 3) := by decide +kernel
theorem dX6_isLastBell_4 : decode cX6_isLastBell 4 = .ok (.iload_n 0, 1) := by decide +kernel
theorem dX6_isLastBell_5 : decode cX6_isLastBell 5 = .ok (.bipush 60, 2) := by decide +kernel
theorem dX6_isLastBell_7 : decode cX6_isLastBell 7 = .ok (.if_icmp .gt 7, 3) := by decide +kernel
theorem dX6_isLastBell_10 : decode cX6_isLastBell 10 = .ok (.iconst 1, 1) := by decide +kernel
theorem dX6_isLastBell_11 : decode cX6_isLastBell 11 = .ok (.goto 4, 3) := by decide +kernel
theorem dX6_isLastBell_14 : decode cX6_isLastBell 14 = .ok (.iconst 0, 1) := by decide +kernel
theorem dX6_isLastBell_15 : decode cX6_isLastBell 15 = .ok (.ireturn, 1) := by decide +kernel
set_option maxRecDepth 20000 in
theorem ggX6_isLitBehind_X5_postBefore : GoodIn wsX6_isLitBehind wsX5_postBefore := goodIn_r _ [8, 9, 10, 11, 12, 7, 13, 14, 15, 16, 17, 18, 59, 60, 61, 62, 63, 64, 65, 66, 67, 68, 69] (by decide +kernel) (by decide +kernel)
set_option maxRecDepth 20000 in
theorem gX6_isLitBehind_X5_postBefore : GoodIn wsX6_isLitBehind (wsV RX6 220 RX5 yX5_postBefore wsX5_postBefore) := goodIn_app (goodIn_of _ (by decide +kernel)) ggX6_isLitBehind_X5_postBefore
set_option maxRecDepth 20000 in
theorem ggX6_isLitBehind_X1_lanternAt : GoodIn wsX6_isLitBehind wsX1_lanternAt := goodIn_r _ [23, 24, 25, 26, 27, 28, 29, 30, 31, 70, 71, 72, 73, 74, 75] (by decide +kernel) (by decide +kernel)
set_option maxRecDepth 20000 in
theorem gX6_isLitBehind_X1_lanternAt : GoodIn wsX6_isLitBehind (wsV RX6 125 RX1 yX1_lanternAt wsX1_lanternAt) := goodIn_app (goodIn_of _ (by decide +kernel)) ggX6_isLitBehind_X1_lanternAt
set_option maxRecDepth 20000 in
theorem ggX6_isLitBehind_X3_get : GoodIn wsX6_isLitBehind wsX3_get := goodIn_r _ [30, 31, 75] (by decide +kernel) (by decide +kernel)
set_option maxRecDepth 20000 in
theorem gX6_isLitBehind_X3_get : GoodIn wsX6_isLitBehind (wsV RX6 109 RX3 yX3_get wsX3_get) := goodIn_app (goodIn_of _ (by decide +kernel)) ggX6_isLitBehind_X3_get
set_option maxRecDepth 20000 in
theorem ggX6_isLitBehind_X1_litFor : GoodIn wsX6_isLitBehind wsX1_litFor := goodIn_r _ [36, 37, 38, 39, 40, 41, 42, 43, 44, 22, 45, 46, 26, 27, 28, 29, 30, 31, 70, 71, 72, 73, 74, 75] (by decide +kernel) (by decide +kernel)
set_option maxRecDepth 20000 in
theorem gX6_isLitBehind_X1_litFor : GoodIn wsX6_isLitBehind (wsV RX6 232 RX1 yX1_litFor wsX1_litFor) := goodIn_app (goodIn_of _ (by decide +kernel)) ggX6_isLitBehind_X1_litFor
theorem dX6_isLitBehind_0 : decode cX6_isLitBehind 0 = .ok (.aload_n 0, 1) := by decide +kernel
theorem dX6_isLitBehind_1 : decode cX6_isLitBehind 1 = .ok (.getfield 61, 3) := by decide +kernel
theorem dX6_isLitBehind_4 : decode cX6_isLitBehind 4 = .ok (.iload_n 2, 1) := by decide +kernel
theorem dX6_isLitBehind_5 : decode cX6_isLitBehind 5 = .ok (.iload_n 1, 1) := by decide +kernel
theorem dX6_isLitBehind_6 : decode cX6_isLitBehind 6 = .ok (.invokevirtual 220, 3) := by decide +kernel
theorem dX6_isLitBehind_9 : decode cX6_isLitBehind 9 = .ok (.istore_n 3, 1) := by decide +kernel
theorem dX6_isLitBehind_10 : decode cX6_isLitBehind 10 = .ok (.iload_n 1, 1) := by decide +kernel
theorem dX6_isLitBehind_11 : decode cX6_isLitBehind 11 = .ok (.aload_n 0, 1) := by decide +kernel
theorem dX6_isLitBehind_12 : decode cX6_isLitBehind 12 = .ok (.getfield 45, 3) := by decide +kernel
theorem dX6_isLitBehind_15 : decode cX6_isLitBehind 15 = .ok (.aload_n 0, 1) := by decide +kernel
theorem dX6_isLitBehind_16 : decode cX6_isLitBehind 16 = .ok (.getfield 45, 3) := by decide +kernel
theorem dX6_isLitBehind_19 : decode cX6_isLitBehind 19 = .ok (.iload_n 3, 1) := by decide +kernel
theorem dX6_isLitBehind_20 : decode cX6_isLitBehind 20 = .ok (.invokevirtual 125, 3) := by decide +kernel
theorem dX6_isLitBehind_23 : decode cX6_isLitBehind 23 = .ok (.aload_n 0, 1) := by decide +kernel
theorem dX6_isLitBehind_24 : decode cX6_isLitBehind 24 = .ok (.getfield 52, 3) := by decide +kernel
theorem dX6_isLitBehind_27 : decode cX6_isLitBehind 27 = .ok (.iload_n 3, 1) := by decide +kernel
theorem dX6_isLitBehind_28 : decode cX6_isLitBehind 28 = .ok (.invokevirtual 109, 3) := by decide +kernel
theorem dX6_isLitBehind_31 : decode cX6_isLitBehind 31 = .ok (.invokevirtual 232, 3) := by decide +kernel
theorem dX6_isLitBehind_34 : decode cX6_isLitBehind 34 = .ok (.if_icmp .ge 7, 3) := by decide +kernel
theorem dX6_isLitBehind_37 : decode cX6_isLitBehind 37 = .ok (.iconst 1, 1) := by decide +kernel
theorem dX6_isLitBehind_38 : decode cX6_isLitBehind 38 = .ok (.goto 4, 3) := by decide +kernel
theorem dX6_isLitBehind_41 : decode cX6_isLitBehind 41 = .ok (.iconst 0, 1) := by decide +kernel
theorem dX6_isLitBehind_42 : decode cX6_isLitBehind 42 = .ok (.ireturn, 1) := by decide +kernel
set_option maxRecDepth 20000 in
theorem ggX6_setsWith_X5_withOil : GoodIn wsX6_setsWith wsX5_withOil := goodIn_r _ [8, 9, 10, 11, 12, 13, 14, 15, 16, 79, 80, 81, 82, 83, 84, 85, 86, 87, 88, 89, 90] (by decide +kernel) (by decide +kernel)
set_option maxRecDepth 20000 in
theorem gX6_setsWith_X5_withOil : GoodIn wsX6_setsWith (wsV RX6 234 RX5 yX5_withOil wsX5_withOil) := goodIn_app (goodIn_of _ (by decide +kernel)) ggX6_setsWith_X5_withOil
set_option maxRecDepth 20000 in
theorem ggX6_setsWith_X5_reckonLit : GoodIn wsX6_setsWith wsX5_reckonLit := goodIn_r _ [20, 9, 10, 21, 22, 23, 24, 25, 26, 27, 7, 28, 29, 30, 31, 32, 33, 34, 35, 14, 36, 16, 11, 12, 13, 15, 37, 38, 39, 40, 41, 42, 43, 44, 45, 46, 47, 48, 49, 79, 80, 81, 82, 83, 84, 85, 86, 87, 88, 89, 90] (by decide +kernel) (by decide +kernel)
set_option maxRecDepth 20000 in
theorem gX6_setsWith_X5_reckonLit : GoodIn wsX6_setsWith (wsV RX6 187 RX5 yX5_reckonLit wsX5_reckonLit) := goodIn_app (goodIn_of _ (by decide +kernel)) ggX6_setsWith_X5_reckonLit
set_option maxRecDepth 20000 in
theorem ggX6_setsWith_X0_agrees : GoodIn wsX6_setsWith wsX0_agrees := goodIn_r _ [54, 55, 56, 57, 58, 59, 12, 13, 14, 15, 16, 60, 38, 39, 7, 40, 41, 42, 43, 44, 45, 9, 46, 47, 48, 49, 61, 62, 63, 64, 65, 66, 91, 92, 93, 94, 79, 80, 81, 82, 83, 84, 85, 86, 87, 88, 89, 90] (by decide +kernel) (by decide +kernel)
set_option maxRecDepth 20000 in
theorem gX6_setsWith_X0_agrees : GoodIn wsX6_setsWith (wsV RX6 193 RX0 yX0_agrees wsX0_agrees) := goodIn_app (goodIn_of _ (by decide +kernel)) ggX6_setsWith_X0_agrees
theorem dX6_setsWith_0 : decode cX6_setsWith 0 = .ok (.aload_n 0, 1) := by decide +kernel
theorem dX6_setsWith_1 : decode cX6_setsWith 1 = .ok (.getfield 61, 3) := by decide +kernel
theorem dX6_setsWith_4 : decode cX6_setsWith 4 = .ok (.invokevirtual 234, 3) := by decide +kernel
theorem dX6_setsWith_7 : decode cX6_setsWith 7 = .ok (.istore_n 2, 1) := by decide +kernel
theorem dX6_setsWith_8 : decode cX6_setsWith 8 = .ok (.iconst 0, 1) := by decide +kernel
theorem dX6_setsWith_9 : decode cX6_setsWith 9 = .ok (.istore_n 3, 1) := by decide +kernel
theorem dX6_setsWith_10 : decode cX6_setsWith 10 = .ok (.iconst 0, 1) := by decide +kernel
theorem dX6_setsWith_11 : decode cX6_setsWith 11 = .ok (.istore 4, 2) := by decide +kernel
theorem dX6_setsWith_13 : decode cX6_setsWith 13 = .ok (.iload 4, 2) := by decide +kernel
theorem dX6_setsWith_15 : decode cX6_setsWith 15 = .ok (.iload_n 2, 1) := by decide +kernel
theorem dX6_setsWith_16 : decode cX6_setsWith 16 = .ok (.if_icmp .gt 65, 3) := by decide +kernel
theorem dX6_setsWith_19 : decode cX6_setsWith 19 = .ok (.iload 4, 2) := by decide +kernel
theorem dX6_setsWith_21 : decode cX6_setsWith 21 = .ok (.iload_n 2, 1) := by decide +kernel
theorem dX6_setsWith_22 : decode cX6_setsWith 22 = .ok (.iconst (-1), 1) := by decide +kernel
theorem dX6_setsWith_23 : decode cX6_setsWith 23 = .ok (.ixor, 1) := by decide +kernel
theorem dX6_setsWith_24 : decode cX6_setsWith 24 = .ok (.iand, 1) := by decide +kernel
theorem dX6_setsWith_25 : decode cX6_setsWith 25 = .ok (.ifCond .ne 50, 3) := by decide +kernel
theorem dX6_setsWith_28 : decode cX6_setsWith 28 = .ok (.iload_n 1, 1) := by decide +kernel
theorem dX6_setsWith_29 : decode cX6_setsWith 29 = .ok (.iload 4, 2) := by decide +kernel
theorem dX6_setsWith_31 : decode cX6_setsWith 31 = .ok (.iconst (-1), 1) := by decide +kernel
theorem dX6_setsWith_32 : decode cX6_setsWith 32 = .ok (.ixor, 1) := by decide +kernel
theorem dX6_setsWith_33 : decode cX6_setsWith 33 = .ok (.iand, 1) := by decide +kernel
theorem dX6_setsWith_34 : decode cX6_setsWith 34 = .ok (.ifCond .eq 6, 3) := by decide +kernel
theorem dX6_setsWith_37 : decode cX6_setsWith 37 = .ok (.goto 38, 3) := by decide +kernel
theorem dX6_setsWith_40 : decode cX6_setsWith 40 = .ok (.aload_n 0, 1) := by decide +kernel
theorem dX6_setsWith_41 : decode cX6_setsWith 41 = .ok (.getfield 61, 3) := by decide +kernel
theorem dX6_setsWith_44 : decode cX6_setsWith 44 = .ok (.iload 4, 2) := by decide +kernel
theorem dX6_setsWith_46 : decode cX6_setsWith 46 = .ok (.aload_n 0, 1) := by decide +kernel
theorem dX6_setsWith_47 : decode cX6_setsWith 47 = .ok (.getfield 55, 3) := by decide +kernel
theorem dX6_setsWith_50 : decode cX6_setsWith 50 = .ok (.invokevirtual 187, 3) := by decide +kernel
theorem dX6_setsWith_53 : decode cX6_setsWith 53 = .ok (.aload_n 0, 1) := by decide +kernel
theorem dX6_setsWith_54 : decode cX6_setsWith 54 = .ok (.getfield 28, 3) := by decide +kernel
theorem dX6_setsWith_57 : decode cX6_setsWith 57 = .ok (.aload_n 0, 1) := by decide +kernel
theorem dX6_setsWith_58 : decode cX6_setsWith 58 = .ok (.getfield 61, 3) := by decide +kernel
theorem dX6_setsWith_61 : decode cX6_setsWith 61 = .ok (.aload_n 0, 1) := by decide +kernel
theorem dX6_setsWith_62 : decode cX6_setsWith 62 = .ok (.getfield 55, 3) := by decide +kernel
theorem dX6_setsWith_65 : decode cX6_setsWith 65 = .ok (.iconst (-1), 1) := by decide +kernel
theorem dX6_setsWith_66 : decode cX6_setsWith 66 = .ok (.invokevirtual 193, 3) := by decide +kernel
theorem dX6_setsWith_69 : decode cX6_setsWith 69 = .ok (.ifCond .eq 6, 3) := by decide +kernel
theorem dX6_setsWith_72 : decode cX6_setsWith 72 = .ok (.iinc 3 1, 3) := by decide +kernel
theorem dX6_setsWith_75 : decode cX6_setsWith 75 = .ok (.iinc 4 1, 3) := by decide +kernel
theorem dX6_setsWith_78 : decode cX6_setsWith 78 = .ok (.goto (-65), 3) := by decide +kernel
theorem dX6_setsWith_81 : decode cX6_setsWith 81 = .ok (.iload_n 3, 1) := by decide +kernel
theorem dX6_setsWith_82 : decode cX6_setsWith 82 = .ok (.ireturn, 1) := by decide +kernel
set_option maxRecDepth 20000 in
theorem ggX6_fitsWithDraught_X5_postBefore : GoodIn wsX6_fitsWithDraught wsX5_postBefore := goodIn_r _ [12, 13, 14, 15, 16, 11, 17, 18, 19, 20, 21, 22, 62, 63, 64, 65, 66, 67, 68, 69, 70, 71, 72] (by decide +kernel) (by decide +kernel)
set_option maxRecDepth 20000 in
theorem gX6_fitsWithDraught_X5_postBefore : GoodIn wsX6_fitsWithDraught (wsV RX6 220 RX5 yX5_postBefore wsX5_postBefore) := goodIn_app (goodIn_of _ (by decide +kernel)) ggX6_fitsWithDraught_X5_postBefore
set_option maxRecDepth 20000 in
theorem ggX6_fitsWithDraught_X3_get : GoodIn wsX6_fitsWithDraught wsX3_get := goodIn_r _ [27, 28, 73] (by decide +kernel) (by decide +kernel)
set_option maxRecDepth 20000 in
theorem gX6_fitsWithDraught_X3_get : GoodIn wsX6_fitsWithDraught (wsV RX6 109 RX3 yX3_get wsX3_get) := goodIn_app (goodIn_of _ (by decide +kernel)) ggX6_fitsWithDraught_X3_get
set_option maxRecDepth 20000 in
theorem ggX6_fitsWithDraught_X3_set : GoodIn wsX6_fitsWithDraught wsX3_set := goodIn_r _ [32, 28, 73] (by decide +kernel) (by decide +kernel)
set_option maxRecDepth 20000 in
theorem gX6_fitsWithDraught_X3_set : GoodIn wsX6_fitsWithDraught (wsV RX6 84 RX3 yX3_set wsX3_set) := goodIn_app (goodIn_of _ (by decide +kernel)) ggX6_fitsWithDraught_X3_set
set_option maxRecDepth 20000 in
theorem ggX6_fitsWithDraught_X0_agrees : GoodIn wsX6_fitsWithDraught wsX0_agrees := goodIn_r _ [37, 38, 39, 40, 41, 42, 24, 25, 26, 27, 28, 43, 9, 10, 11, 12, 13, 14, 15, 16, 17, 18, 19, 20, 21, 22, 44, 45, 46, 47, 48, 49, 74, 75, 76, 77, 62, 63, 64, 65, 66, 67, 68, 69, 70, 71, 72, 73] (by decide +kernel) (by decide +kernel)
set_option maxRecDepth 20000 in
theorem gX6_fitsWithDraught_X0_agrees : GoodIn wsX6_fitsWithDraught (wsV RX6 193 RX0 yX0_agrees wsX0_agrees) := goodIn_app (goodIn_of _ (by decide +kernel)) ggX6_fitsWithDraught_X0_agrees
theorem dX6_fitsWithDraught_0 : decode cX6_fitsWithDraught 0 = .ok (.aload_n 0, 1) := by decide +kernel
theorem dX6_fitsWithDraught_1 : decode cX6_fitsWithDraught 1 = .ok (.getfield 61, 3) := by decide +kernel
theorem dX6_fitsWithDraught_4 : decode cX6_fitsWithDraught 4 = .ok (.iload_n 2, 1) := by decide +kernel
theorem dX6_fitsWithDraught_5 : decode cX6_fitsWithDraught 5 = .ok (.iload_n 1, 1) := by decide +kernel
theorem dX6_fitsWithDraught_6 : decode cX6_fitsWithDraught 6 = .ok (.invokevirtual 220, 3) := by decide +kernel
theorem dX6_fitsWithDraught_9 : decode cX6_fitsWithDraught 9 = .ok (.istore_n 3, 1) := by decide +kernel
theorem dX6_fitsWithDraught_10 : decode cX6_fitsWithDraught 10 = .ok (.aload_n 0, 1) := by decide +kernel
theorem dX6_fitsWithDraught_11 : decode cX6_fitsWithDraught 11 = .ok (.getfield 55, 3) := by decide +kernel
theorem dX6_fitsWithDraught_14 : decode cX6_fitsWithDraught 14 = .ok (.iload_n 3, 1) := by decide +kernel
theorem dX6_fitsWithDraught_15 : decode cX6_fitsWithDraught 15 = .ok (.invokevirtual 109, 3) := by decide +kernel
theorem dX6_fitsWithDraught_18 : decode cX6_fitsWithDraught 18 = .ok (.istore 4, 2) := by decide +kernel
theorem dX6_fitsWithDraught_20 : decode cX6_fitsWithDraught 20 = .ok (.aload_n 0, 1) := by decide +kernel
theorem dX6_fitsWithDraught_21 : decode cX6_fitsWithDraught 21 = .ok (.getfield 55, 3) := by decide +kernel
theorem dX6_fitsWithDraught_24 : decode cX6_fitsWithDraught 24 = .ok (.iload_n 3, 1) := by decide +kernel
theorem dX6_fitsWithDraught_25 : decode cX6_fitsWithDraught 25 = .ok (.iload_n 1, 1) := by decide +kernel
theorem dX6_fitsWithDraught_26 : decode cX6_fitsWithDraught 26 = .ok (.iload 4, 2) := by decide +kernel
theorem dX6_fitsWithDraught_28 : decode cX6_fitsWithDraught 28 = .ok (.invokestatic 223, 3) := by decide +kernel
theorem dX6_fitsWithDraught_31 : decode cX6_fitsWithDraught 31 = .ok (.invokevirtual 84, 3) := by decide +kernel
theorem dX6_fitsWithDraught_34 : decode cX6_fitsWithDraught 34 = .ok (.aload_n 0, 1) := by decide +kernel
theorem dX6_fitsWithDraught_35 : decode cX6_fitsWithDraught 35 = .ok (.getfield 28, 3) := by decide +kernel
theorem dX6_fitsWithDraught_38 : decode cX6_fitsWithDraught 38 = .ok (.aload_n 0, 1) := by decide +kernel
theorem dX6_fitsWithDraught_39 : decode cX6_fitsWithDraught 39 = .ok (.getfield 61, 3) := by decide +kernel
theorem dX6_fitsWithDraught_42 : decode cX6_fitsWithDraught 42 = .ok (.aload_n 0, 1) := by decide +kernel
theorem dX6_fitsWithDraught_43 : decode cX6_fitsWithDraught 43 = .ok (.getfield 55, 3) := by decide +kernel
theorem dX6_fitsWithDraught_46 : decode cX6_fitsWithDraught 46 = .ok (.iconst (-1), 1) := by decide +kernel
theorem dX6_fitsWithDraught_47 : decode cX6_fitsWithDraught 47 = .ok (.invokevirtual 193, 3) := by decide +kernel
theorem dX6_fitsWithDraught_50 : decode cX6_fitsWithDraught 50 = .ok (.istore 5, 2) := by decide +kernel
theorem dX6_fitsWithDraught_52 : decode cX6_fitsWithDraught 52 = .ok (.aload_n 0, 1) := by decide +kernel
theorem dX6_fitsWithDraught_53 : decode cX6_fitsWithDraught 53 = .ok (.getfield 55, 3) := by decide +kernel
theorem dX6_fitsWithDraught_56 : decode cX6_fitsWithDraught 56 = .ok (.iload_n 3, 1) := by decide +kernel
theorem dX6_fitsWithDraught_57 : decode cX6_fitsWithDraught 57 = .ok (.iload 4, 2) := by decide +kernel
theorem dX6_fitsWithDraught_59 : decode cX6_fitsWithDraught 59 = .ok (.invokevirtual 84, 3) := by decide +kernel
theorem dX6_fitsWithDraught_62 : decode cX6_fitsWithDraught 62 = .ok (.iload 5, 2) := by decide +kernel
theorem dX6_fitsWithDraught_64 : decode cX6_fitsWithDraught 64 = .ok (.ireturn, 1) := by decide +kernel
set_option maxRecDepth 20000 in
theorem ggX6_waysToFinish_J6_bitCount_0f7a4 : GoodIn wsX6_waysToFinish wsJ6_bitCount_0f7a4 := goodIn_r _ [5, 6, 7, 8] (by decide +kernel) (by decide +kernel)
set_option maxRecDepth 20000 in
theorem gX6_waysToFinish_J6_bitCount_0f7a4 : GoodIn wsX6_waysToFinish (va_wsS RX6 237 yJ6_bitCount_0f7a4 wsJ6_bitCount_0f7a4) := goodIn_app (goodIn_of _ (by decide +kernel)) ggX6_waysToFinish_J6_bitCount_0f7a4
set_option maxRecDepth 20000 in
theorem ggX6_waysToFinish_X5_bellsNeeded : GoodIn wsX6_waysToFinish wsX5_bellsNeeded := goodIn_r _ [13, 14, 15, 16, 17, 12, 18, 19, 20, 21, 22, 23, 65, 66, 67, 68, 69, 70, 71, 72, 73, 74, 75] (by decide +kernel) (by decide +kernel)
set_option maxRecDepth 20000 in
theorem gX6_waysToFinish_X5_bellsNeeded : GoodIn wsX6_waysToFinish (wsV RX6 204 RX5 yX5_bellsNeeded wsX5_bellsNeeded) := goodIn_app (goodIn_of _ (by decide +kernel)) ggX6_waysToFinish_X5_bellsNeeded
set_option maxRecDepth 20000 in
theorem ggX6_waysToFinish_X6_firstThatFinishes : GoodIn wsX6_waysToFinish wsX6_firstThatFinishes := goodIn_r _ [28, 1, 29, 30, 31, 32, 33, 34, 35, 36, 37, 38, 39, 40, 41, 42, 43, 44, 45, 46, 47, 48, 49, 50, 51, 52, 53, 54, 55, 56, 57, 58, 59, 60, 61, 62, 63, 64, 65, 66, 67, 68, 69, 70, 71, 72, 73, 74, 75, 76, 77, 78, 79, 80, 81] (by decide +kernel) (by decide +kernel)
set_option maxRecDepth 20000 in
theorem gX6_waysToFinish_X6_firstThatFinishes : GoodIn wsX6_waysToFinish (wsV RX6 208 RX6 yX6_firstThatFinishes wsX6_firstThatFinishes) := goodIn_app (goodIn_of _ (by decide +kernel)) ggX6_waysToFinish_X6_firstThatFinishes
theorem dX6_waysToFinish_0 : decode cX6_waysToFinish 0 = .ok (.iconst 1, 1) := by decide +kernel
theorem dX6_waysToFinish_1 : decode cX6_waysToFinish 1 = .ok (.aload_n 0, 1) := by decide +kernel
theorem dX6_waysToFinish_2 : decode cX6_waysToFinish 2 = .ok (.getfield 61, 3) := by decide +kernel
theorem dX6_waysToFinish_5 : decode cX6_waysToFinish 5 = .ok (.getfield 100, 3) := by decide +kernel
theorem dX6_waysToFinish_8 : decode cX6_waysToFinish 8 = .ok (.ishl, 1) := by decide +kernel
theorem dX6_waysToFinish_9 : decode cX6_waysToFinish 9 = .ok (.iconst 1, 1) := by decide +kernel
theorem dX6_waysToFinish_10 : decode cX6_waysToFinish 10 = .ok (.isub, 1) := by decide +kernel
theorem dX6_waysToFinish_11 : decode cX6_waysToFinish 11 = .ok (.istore_n 3, 1) := by decide +kernel
theorem dX6_waysToFinish_12 : decode cX6_waysToFinish 12 = .ok (.lconst 1, 1) := by decide +kernel
theorem dX6_waysToFinish_13 : decode cX6_waysToFinish 13 = .ok (.iload_n 3, 1) := by decide +kernel
theorem dX6_waysToFinish_14 : decode cX6_waysToFinish 14 = .ok (.lshl, 1) := by decide +kernel
theorem dX6_waysToFinish_15 : decode cX6_waysToFinish 15 = .ok (.lstore 4, 2) := by decide +kernel
theorem dX6_waysToFinish_17 : decode cX6_waysToFinish 17 = .ok (.iload_n 3, 1) := by decide +kernel
theorem dX6_waysToFinish_18 : decode cX6_waysToFinish 18 = .ok (.iconst 1, 1) := by decide +kernel
theorem dX6_waysToFinish_19 : decode cX6_waysToFinish 19 = .ok (.isub, 1) := by decide +kernel
theorem dX6_waysToFinish_20 : decode cX6_waysToFinish 20 = .ok (.istore 6, 2) := by decide +kernel
theorem dX6_waysToFinish_22 : decode cX6_waysToFinish 22 = .ok (.iload 6, 2) := by decide +kernel
theorem dX6_waysToFinish_24 : decode cX6_waysToFinish 24 = .ok (.ifCond .lt 51, 3) := by decide +kernel
theorem dX6_waysToFinish_27 : decode cX6_waysToFinish 27 = .ok (.iload 6, 2) := by decide +kernel
theorem dX6_waysToFinish_29 : decode cX6_waysToFinish 29 = .ok (.invokestatic 237, 3) := by decide +kernel
theorem dX6_waysToFinish_32 : decode cX6_waysToFinish 32 = .ok (.istore 7, 2) := by decide +kernel
theorem dX6_waysToFinish_34 : decode cX6_waysToFinish 34 = .ok (.aload_n 0, 1) := by decide +kernel
theorem dX6_waysToFinish_35 : decode cX6_waysToFinish 35 = .ok (.iload 6, 2) := by decide +kernel
theorem dX6_waysToFinish_37 : decode cX6_waysToFinish 37 = .ok (.iload 7, 2) := by decide +kernel
theorem dX6_waysToFinish_39 : decode cX6_waysToFinish 39 = .ok (.aload_n 0, 1) := by decide +kernel
theorem dX6_waysToFinish_40 : decode cX6_waysToFinish 40 = .ok (.getfield 61, 3) := by decide +kernel
theorem dX6_waysToFinish_43 : decode cX6_waysToFinish 43 = .ok (.iload 7, 2) := by decide +kernel
theorem dX6_waysToFinish_45 : decode cX6_waysToFinish 45 = .ok (.iload_n 1, 1) := by decide +kernel
theorem dX6_waysToFinish_46 : decode cX6_waysToFinish 46 = .ok (.iload_n 2, 1) := by decide +kernel
theorem dX6_waysToFinish_47 : decode cX6_waysToFinish 47 = .ok (.invokevirtual 204, 3) := by decide +kernel
theorem dX6_waysToFinish_50 : decode cX6_waysToFinish 50 = .ok (.lload 4, 2) := by decide +kernel
theorem dX6_waysToFinish_52 : decode cX6_waysToFinish 52 = .ok (.invokevirtual 208, 3) := by decide +kernel
theorem dX6_waysToFinish_55 : decode cX6_waysToFinish 55 = .ok (.bipush (-4), 2) := by decide +kernel
theorem dX6_waysToFinish_57 : decode cX6_waysToFinish 57 = .ok (.if_icmp .eq 12, 3) := by decide +kernel
theorem dX6_waysToFinish_60 : decode cX6_waysToFinish 60 = .ok (.lload 4, 2) := by decide +kernel
theorem dX6_waysToFinish_62 : decode cX6_waysToFinish 62 = .ok (.lconst 1, 1) := by decide +kernel
theorem dX6_waysToFinish_63 : decode cX6_waysToFinish 63 = .ok (.iload 6, 2) := by decide +kernel
theorem dX6_waysToFinish_65 : decode cX6_waysToFinish 65 = .ok (.lshl, 1) := by decide +kernel
theorem dX6_waysToFinish_66 : decode cX6_waysToFinish 66 = .ok (.lor, 1) := by decide +kernel
theorem dX6_waysToFinish_67 : decode cX6_waysToFinish 67 = .ok (.lstore 4, 2) := by decide +kernel
theorem dX6_waysToFinish_69 : decode cX6_waysToFinish 69 = .ok (.iinc 6 (-1), 3) := by decide +kernel
theorem dX6_waysToFinish_72 : decode cX6_waysToFinish 72 = .ok (.goto (-50), 3) := by decide +kernel
theorem dX6_waysToFinish_75 : decode cX6_waysToFinish 75 = .ok (.lload 4, 2) := by decide +kernel
theorem dX6_waysToFinish_77 : decode cX6_waysToFinish 77 = .ok (.lreturn, 1) := by decide +kernel
set_option maxRecDepth 20000 in
theorem ggX6_firstThatFinishes_X3_get : GoodIn wsX6_firstThatFinishes wsX3_get := goodIn_r _ [8, 9, 49] (by decide +kernel) (by decide +kernel)
set_option maxRecDepth 20000 in
theorem gX6_firstThatFinishes_X3_get : GoodIn wsX6_firstThatFinishes (wsV RX6 109 RX3 yX3_get wsX3_get) := goodIn_app (goodIn_of _ (by decide +kernel)) ggX6_firstThatFinishes_X3_get
set_option maxRecDepth 20000 in
theorem ggX6_firstThatFinishes_X1_litFor : GoodIn wsX6_firstThatFinishes wsX1_litFor := goodIn_r _ [14, 15, 16, 17, 18, 19, 20, 21, 22, 13, 23, 24, 25, 5, 6, 7, 8, 9, 50, 51, 52, 53, 54, 49] (by decide +kernel) (by decide +kernel)
set_option maxRecDepth 20000 in
theorem gX6_firstThatFinishes_X1_litFor : GoodIn wsX6_firstThatFinishes (wsV RX6 232 RX1 yX1_litFor wsX1_litFor) := goodIn_app (goodIn_of _ (by decide +kernel)) ggX6_firstThatFinishes_X1_litFor
theorem dX6_firstThatFinishes_0 : decode cX6_firstThatFinishes 0 = .ok (.iconst 0, 1) := by decide +kernel
theorem dX6_firstThatFinishes_1 : decode cX6_firstThatFinishes 1 = .ok (.istore 6, 2) := by decide +kernel
theorem dX6_firstThatFinishes_3 : decode cX6_firstThatFinishes 3 = .ok (.iload 6, 2) := by decide +kernel
theorem dX6_firstThatFinishes_5 : decode cX6_firstThatFinishes 5 = .ok (.aload_n 0, 1) := by decide +kernel
theorem dX6_firstThatFinishes_6 : decode cX6_firstThatFinishes 6 = .ok (.getfield 61, 3) := by decide +kernel
theorem dX6_firstThatFinishes_9 : decode cX6_firstThatFinishes 9 = .ok (.getfield 100, 3) := by decide +kernel
theorem dX6_firstThatFinishes_12 : decode cX6_firstThatFinishes 12 = .ok (.if_icmp .ge 72, 3) := by decide +kernel
theorem dX6_firstThatFinishes_15 : decode cX6_firstThatFinishes 15 = .ok (.iconst 1, 1) := by decide +kernel
theorem dX6_firstThatFinishes_16 : decode cX6_firstThatFinishes 16 = .ok (.iload 6, 2) := by decide +kernel
theorem dX6_firstThatFinishes_18 : decode cX6_firstThatFinishes 18 = .ok (.ishl, 1) := by decide +kernel
theorem dX6_firstThatFinishes_19 : decode cX6_firstThatFinishes 19 = .ok (.istore 7, 2) := by decide +kernel
theorem dX6_firstThatFinishes_21 : decode cX6_firstThatFinishes 21 = .ok (.iload_n 1, 1) := by decide +kernel
theorem dX6_firstThatFinishes_22 : decode cX6_firstThatFinishes 22 = .ok (.iload 7, 2) := by decide +kernel
theorem dX6_firstThatFinishes_24 : decode cX6_firstThatFinishes 24 = .ok (.iand, 1) := by decide +kernel
theorem dX6_firstThatFinishes_25 : decode cX6_firstThatFinishes 25 = .ok (.ifCond .ne 21, 3) := by decide +kernel
theorem dX6_firstThatFinishes_28 : decode cX6_firstThatFinishes 28 = .ok (.lload 4, 2) := by decide +kernel
theorem dX6_firstThatFinishes_30 : decode cX6_firstThatFinishes 30 = .ok (.iload_n 1, 1) := by decide +kernel
theorem dX6_firstThatFinishes_31 : decode cX6_firstThatFinishes 31 = .ok (.iload 7, 2) := by decide +kernel
theorem dX6_firstThatFinishes_33 : decode cX6_firstThatFinishes 33 = .ok (.ior, 1) := by decide +kernel
theorem dX6_firstThatFinishes_34 : decode cX6_firstThatFinishes 34 = .ok (.lushr, 1) := by decide +kernel
theorem dX6_firstThatFinishes_35 : decode cX6_firstThatFinishes 35 = .ok (.lconst 1, 1) := by decide +kernel
theorem dX6_firstThatFinishes_36 : decode cX6_firstThatFinishes 36 = .ok (.land, 1) := by decide +kernel
theorem dX6_firstThatFinishes_37 : decode cX6_firstThatFinishes 37 = .ok (.lconst 1, 1) := by decide +kernel
theorem dX6_firstThatFinishes_38 : decode cX6_firstThatFinishes 38 = .ok (.lcmp, 1) := by decide +kernel
theorem dX6_firstThatFinishes_39 : decode cX6_firstThatFinishes 39 = .ok (.ifCond .ne 7, 3) := by decide +kernel
theorem dX6_firstThatFinishes_42 : decode cX6_firstThatFinishes 42 = .ok (.iconst 1, 1) := by decide +kernel
theorem dX6_firstThatFinishes_43 : decode cX6_firstThatFinishes 43 = .ok (.goto 4, 3) := by decide +kernel
theorem dX6_firstThatFinishes_46 : decode cX6_firstThatFinishes 46 = .ok (.iconst 0, 1) := by decide +kernel
theorem dX6_firstThatFinishes_47 : decode cX6_firstThatFinishes 47 = .ok (.istore 8, 2) := by decide +kernel
theorem dX6_firstThatFinishes_49 : decode cX6_firstThatFinishes 49 = .ok (.iload 8, 2) := by decide +kernel
theorem dX6_firstThatFinishes_51 : decode cX6_firstThatFinishes 51 = .ok (.ifCond .eq 27, 3) := by decide +kernel
theorem dX6_firstThatFinishes_54 : decode cX6_firstThatFinishes 54 = .ok (.aload_n 0, 1) := by decide +kernel
theorem dX6_firstThatFinishes_55 : decode cX6_firstThatFinishes 55 = .ok (.getfield 45, 3) := by decide +kernel
theorem dX6_firstThatFinishes_58 : decode cX6_firstThatFinishes 58 = .ok (.iload 6, 2) := by decide +kernel
theorem dX6_firstThatFinishes_60 : decode cX6_firstThatFinishes 60 = .ok (.aload_n 0, 1) := by decide +kernel
theorem dX6_firstThatFinishes_61 : decode cX6_firstThatFinishes 61 = .ok (.getfield 52, 3) := by decide +kernel
theorem dX6_firstThatFinishes_64 : decode cX6_firstThatFinishes 64 = .ok (.iload_n 2, 1) := by decide +kernel
theorem dX6_firstThatFinishes_65 : decode cX6_firstThatFinishes 65 = .ok (.invokevirtual 109, 3) := by decide +kernel
theorem dX6_firstThatFinishes_68 : decode cX6_firstThatFinishes 68 = .ok (.invokevirtual 232, 3) := by decide +kernel
theorem dX6_firstThatFinishes_71 : decode cX6_firstThatFinishes 71 = .ok (.iload_n 3, 1) := by decide +kernel
theorem dX6_firstThatFinishes_72 : decode cX6_firstThatFinishes 72 = .ok (.if_icmp .lt 6, 3) := by decide +kernel
theorem dX6_firstThatFinishes_75 : decode cX6_firstThatFinishes 75 = .ok (.iload 6, 2) := by decide +kernel
theorem dX6_firstThatFinishes_77 : decode cX6_firstThatFinishes 77 = .ok (.ireturn, 1) := by decide +kernel
theorem dX6_firstThatFinishes_78 : decode cX6_firstThatFinishes 78 = .ok (.iinc 6 1, 3) := by decide +kernel
theorem dX6_firstThatFinishes_81 : decode cX6_firstThatFinishes 81 = .ok (.goto (-78), 3) := by decide +kernel
theorem dX6_firstThatFinishes_84 : decode cX6_firstThatFinishes 84 = .ok (.bipush (-4), 2) := by decide +kernel
theorem dX6_firstThatFinishes_86 : decode cX6_firstThatFinishes 86 = .ok (.ireturn, 1) := by decide +kernel
theorem dX6_drawOf_0 : decode cX6_drawOf 0 = .ok (.ldc2_w 242, 3) := by decide +kernel
theorem dX6_drawOf_3 : decode cX6_drawOf 3 = .ok (.iload_n 0, 1) := by decide +kernel
theorem dX6_drawOf_4 : decode cX6_drawOf 4 = .ok (.i2l, 1) := by decide +kernel
theorem dX6_drawOf_5 : decode cX6_drawOf 5 = .ok (.lmul, 1) := by decide +kernel
theorem dX6_drawOf_6 : decode cX6_drawOf 6 = .ok (.ldc2_w 244, 3) := by decide +kernel
theorem dX6_drawOf_9 : decode cX6_drawOf 9 = .ok (.iload_n 1, 1) := by decide +kernel
theorem dX6_drawOf_10 : decode cX6_drawOf 10 = .ok (.i2l, 1) := by decide +kernel
theorem dX6_drawOf_11 : decode cX6_drawOf 11 = .ok (.lmul, 1) := by decide +kernel
theorem dX6_drawOf_12 : decode cX6_drawOf 12 = .ok (.ladd, 1) := by decide +kernel
theorem dX6_drawOf_13 : decode cX6_drawOf 13 = .ok (.lconst 1, 1) := by decide +kernel
theorem dX6_drawOf_14 : decode cX6_drawOf 14 = .ok (.ladd, 1) := by decide +kernel
theorem dX6_drawOf_15 : decode cX6_drawOf 15 = .ok (.lstore_n 2, 1) := by decide +kernel
theorem dX6_drawOf_16 : decode cX6_drawOf 16 = .ok (.lload_n 2, 1) := by decide +kernel
theorem dX6_drawOf_17 : decode cX6_drawOf 17 = .ok (.lload_n 2, 1) := by decide +kernel
theorem dX6_drawOf_18 : decode cX6_drawOf 18 = .ok (.lmul, 1) := by decide +kernel
theorem dX6_drawOf_19 : decode cX6_drawOf 19 = .ok (.ldc2_w 246, 3) := by decide +kernel
theorem dX6_drawOf_22 : decode cX6_drawOf 22 = .ok (.lrem, 1) := by decide +kernel
theorem dX6_drawOf_23 : decode cX6_drawOf 23 = .ok (.l2i, 1) := by decide +kernel
theorem dX6_drawOf_24 : decode cX6_drawOf 24 = .ok (.ireturn, 1) := by decide +kernel
theorem dX6_commonDivisor_0 : decode cX6_commonDivisor 0 = .ok (.iload_n 0, 1) := by decide +kernel
theorem dX6_commonDivisor_1 : decode cX6_commonDivisor 1 = .ok (.istore_n 2, 1) := by decide +kernel
theorem dX6_commonDivisor_2 : decode cX6_commonDivisor 2 = .ok (.iload_n 1, 1) := by decide +kernel
theorem dX6_commonDivisor_3 : decode cX6_commonDivisor 3 = .ok (.istore_n 3, 1) := by decide +kernel
theorem dX6_commonDivisor_4 : decode cX6_commonDivisor 4 = .ok (.iconst 0, 1) := by decide +kernel
theorem dX6_commonDivisor_5 : decode cX6_commonDivisor 5 = .ok (.istore 4, 2) := by decide +kernel
theorem dX6_commonDivisor_7 : decode cX6_commonDivisor 7 = .ok (.iload 4, 2) := by decide +kernel
theorem dX6_commonDivisor_9 : decode cX6_commonDivisor 9 = .ok (.bipush 64, 2) := by decide +kernel
theorem dX6_commonDivisor_11 : decode cX6_commonDivisor 11 = .ok (.if_icmp .ge 23, 3) := by decide +kernel
theorem dX6_commonDivisor_14 : decode cX6_commonDivisor 14 = .ok (.iload_n 3, 1) := by decide +kernel
theorem dX6_commonDivisor_15 : decode cX6_commonDivisor 15 = .ok (.ifCond .le 19, 3) := by decide +kernel
theorem dX6_commonDivisor_18 : decode cX6_commonDivisor 18 = .ok (.iload_n 2, 1) := by decide +kernel
theorem dX6_commonDivisor_19 : decode cX6_commonDivisor 19 = .ok (.iload_n 3, 1) := by decide +kernel
theorem dX6_commonDivisor_20 : decode cX6_commonDivisor 20 = .ok (.irem, 1) := by decide +kernel
theorem dX6_commonDivisor_21 : decode cX6_commonDivisor 21 = .ok (.istore 5, 2) := by decide +kernel
theorem dX6_commonDivisor_23 : decode cX6_commonDivisor 23 = .ok (.iload_n 3, 1) := by decide +kernel
theorem dX6_commonDivisor_24 : decode cX6_commonDivisor 24 = .ok (.istore_n 2, 1) := by decide +kernel
theorem dX6_commonDivisor_25 : decode cX6_commonDivisor 25 = .ok (.iload 5, 2) := by decide +kernel
theorem dX6_commonDivisor_27 : decode cX6_commonDivisor 27 = .ok (.istore_n 3, 1) := by decide +kernel
theorem dX6_commonDivisor_28 : decode cX6_commonDivisor 28 = .ok (.iinc 4 1, 3) := by decide +kernel
theorem dX6_commonDivisor_31 : decode cX6_commonDivisor 31 = .ok (.goto (-24), 3) := by decide +kernel
theorem dX6_commonDivisor_34 : decode cX6_commonDivisor 34 = .ok (.iload_n 2, 1) := by decide +kernel
theorem dX6_commonDivisor_35 : decode cX6_commonDivisor 35 = .ok (.ireturn, 1) := by decide +kernel
