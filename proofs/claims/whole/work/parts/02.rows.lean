set_option maxRecDepth 20000 in
theorem ggX0_init_X3_init : GoodIn wsX0_init wsX3_init := goodIn_r _ [12, 13, 2, 3, 14, 15, 16] (by decide +kernel) (by decide +kernel)
set_option maxRecDepth 20000 in
theorem gX0_init_X3_init : GoodIn wsX0_init (wsX3_init) := ggX0_init_X3_init
theorem dX0_init_0 : decode cX0_init 0 = .ok (.aload_n 0, 1) := by decide +kernel
theorem dX0_init_1 : decode cX0_init 1 = .ok (.invokespecial 3, 3) := by decide +kernel
theorem dX0_init_4 : decode cX0_init 4 = .ok (.aload_n 0, 1) := by decide +kernel
theorem dX0_init_5 : decode cX0_init 5 = .ok (.new 9, 3) := by decide +kernel
theorem dX0_init_8 : decode cX0_init 8 = .ok (.dup, 1) := by decide +kernel
theorem dX0_init_9 : decode cX0_init 9 = .ok (.bipush 10, 2) := by decide +kernel
theorem dX0_init_11 : decode cX0_init 11 = .ok (.invokespecial 11, 3) := by decide +kernel
theorem dX0_init_14 : decode cX0_init 14 = .ok (.putfield 14, 3) := by decide +kernel
theorem dX0_init_17 : decode cX0_init 17 = .ok (.aload_n 0, 1) := by decide +kernel
theorem dX0_init_18 : decode cX0_init 18 = .ok (.new 9, 3) := by decide +kernel
theorem dX0_init_21 : decode cX0_init 21 = .ok (.dup, 1) := by decide +kernel
theorem dX0_init_22 : decode cX0_init 22 = .ok (.bipush 10, 2) := by decide +kernel
theorem dX0_init_24 : decode cX0_init 24 = .ok (.invokespecial 11, 3) := by decide +kernel
theorem dX0_init_27 : decode cX0_init 27 = .ok (.putfield 20, 3) := by decide +kernel
theorem dX0_init_30 : decode cX0_init 30 = .ok (.aload_n 0, 1) := by decide +kernel
theorem dX0_init_31 : decode cX0_init 31 = .ok (.new 9, 3) := by decide +kernel
theorem dX0_init_34 : decode cX0_init 34 = .ok (.dup, 1) := by decide +kernel
theorem dX0_init_35 : decode cX0_init 35 = .ok (.bipush 10, 2) := by decide +kernel
theorem dX0_init_37 : decode cX0_init 37 = .ok (.invokespecial 11, 3) := by decide +kernel
theorem dX0_init_40 : decode cX0_init 40 = .ok (.putfield 23, 3) := by decide +kernel
theorem dX0_init_43 : decode cX0_init 43 = .ok (.return_, 1) := by decide +kernel
theorem dX0_clear_0 : decode cX0_clear 0 = .ok (.aload_n 0, 1) := by decide +kernel
theorem dX0_clear_1 : decode cX0_clear 1 = .ok (.iconst 0, 1) := by decide +kernel
theorem dX0_clear_2 : decode cX0_clear 2 = .ok (.putfield 26, 3) := by decide +kernel
theorem dX0_clear_5 : decode cX0_clear 5 = .ok (.return_, 1) := by decide +kernel
set_option maxRecDepth 20000 in
theorem ggX0_add_X3_set : GoodIn wsX0_add wsX3_set := goodIn_r _ [9, 10, 15] (by decide +kernel) (by decide +kernel)
set_option maxRecDepth 20000 in
theorem gX0_add_X3_set : GoodIn wsX0_add (wsV RX0 30 RX3 yX3_set wsX3_set) := goodIn_app (goodIn_of _ (by decide +kernel)) ggX0_add_X3_set
theorem dX0_add_0 : decode cX0_add 0 = .ok (.aload_n 0, 1) := by decide +kernel
theorem dX0_add_1 : decode cX0_add 1 = .ok (.getfield 14, 3) := by decide +kernel
theorem dX0_add_4 : decode cX0_add 4 = .ok (.aload_n 0, 1) := by decide +kernel
theorem dX0_add_5 : decode cX0_add 5 = .ok (.getfield 26, 3) := by decide +kernel
theorem dX0_add_8 : decode cX0_add 8 = .ok (.iload_n 1, 1) := by decide +kernel
theorem dX0_add_9 : decode cX0_add 9 = .ok (.invokevirtual 30, 3) := by decide +kernel
theorem dX0_add_12 : decode cX0_add 12 = .ok (.aload_n 0, 1) := by decide +kernel
theorem dX0_add_13 : decode cX0_add 13 = .ok (.getfield 20, 3) := by decide +kernel
theorem dX0_add_16 : decode cX0_add 16 = .ok (.aload_n 0, 1) := by decide +kernel
theorem dX0_add_17 : decode cX0_add 17 = .ok (.getfield 26, 3) := by decide +kernel
theorem dX0_add_20 : decode cX0_add 20 = .ok (.iload_n 2, 1) := by decide +kernel
theorem dX0_add_21 : decode cX0_add 21 = .ok (.invokevirtual 30, 3) := by decide +kernel
theorem dX0_add_24 : decode cX0_add 24 = .ok (.aload_n 0, 1) := by decide +kernel
theorem dX0_add_25 : decode cX0_add 25 = .ok (.getfield 23, 3) := by decide +kernel
theorem dX0_add_28 : decode cX0_add 28 = .ok (.aload_n 0, 1) := by decide +kernel
theorem dX0_add_29 : decode cX0_add 29 = .ok (.getfield 26, 3) := by decide +kernel
theorem dX0_add_32 : decode cX0_add 32 = .ok (.iload_n 3, 1) := by decide +kernel
theorem dX0_add_33 : decode cX0_add 33 = .ok (.ifCond .eq 7, 3) := by decide +kernel
theorem dX0_add_36 : decode cX0_add 36 = .ok (.iconst 1, 1) := by decide +kernel
theorem dX0_add_37 : decode cX0_add 37 = .ok (.goto 4, 3) := by decide +kernel
theorem dX0_add_40 : decode cX0_add 40 = .ok (.iconst 0, 1) := by decide +kernel
theorem dX0_add_41 : decode cX0_add 41 = .ok (.invokevirtual 30, 3) := by decide +kernel
theorem dX0_add_44 : decode cX0_add 44 = .ok (.aload_n 0, 1) := by decide +kernel
theorem dX0_add_45 : decode cX0_add 45 = .ok (.dup, 1) := by decide +kernel
theorem dX0_add_46 : decode cX0_add 46 = .ok (.getfield 26, 3) := by decide +kernel
theorem dX0_add_49 : decode cX0_add 49 = .ok (.iconst 1, 1) := by decide +kernel
theorem dX0_add_50 : decode cX0_add 50 = .ok (.iadd, 1) := by decide +kernel
theorem dX0_add_51 : decode cX0_add 51 = .ok (.putfield 26, 3) := by decide +kernel
theorem dX0_add_54 : decode cX0_add 54 = .ok (.return_, 1) := by decide +kernel
set_option maxRecDepth 20000 in
theorem ggX0_agrees_X3_get : GoodIn wsX0_agrees wsX3_get := goodIn_r _ [9, 10, 47] (by decide +kernel) (by decide +kernel)
set_option maxRecDepth 20000 in
theorem gX0_agrees_X3_get : GoodIn wsX0_agrees (wsV RX0 34 RX3 yX3_get wsX3_get) := goodIn_app (goodIn_of _ (by decide +kernel)) ggX0_agrees_X3_get
set_option maxRecDepth 20000 in
theorem ggX0_agrees_X5_postBefore : GoodIn wsX0_agrees wsX5_postBefore := goodIn_r _ [15, 16, 17, 18, 19, 14, 20, 21, 22, 23, 24, 25, 36, 37, 38, 39, 40, 41, 42, 43, 44, 45, 46] (by decide +kernel) (by decide +kernel)
set_option maxRecDepth 20000 in
theorem gX0_agrees_X5_postBefore : GoodIn wsX0_agrees (wsV RX0 38 RX5 yX5_postBefore wsX5_postBefore) := goodIn_app (goodIn_of _ (by decide +kernel)) ggX0_agrees_X5_postBefore
set_option maxRecDepth 20000 in
theorem ggX0_agrees_X5_isWarm : GoodIn wsX0_agrees wsX5_isWarm := goodIn_r _ [29, 30, 31, 36, 37, 38, 39, 40, 41, 42, 43, 44, 45, 46] (by decide +kernel) (by decide +kernel)
set_option maxRecDepth 20000 in
theorem gX0_agrees_X5_isWarm : GoodIn wsX0_agrees (wsV RX0 47 RX5 yX5_isWarm wsX5_isWarm) := goodIn_app (goodIn_of _ (by decide +kernel)) ggX0_agrees_X5_isWarm
theorem dX0_agrees_0 : decode cX0_agrees 0 = .ok (.iconst 0, 1) := by decide +kernel
theorem dX0_agrees_1 : decode cX0_agrees 1 = .ok (.istore 4, 2) := by decide +kernel
theorem dX0_agrees_3 : decode cX0_agrees 3 = .ok (.iload 4, 2) := by decide +kernel
theorem dX0_agrees_5 : decode cX0_agrees 5 = .ok (.aload_n 0, 1) := by decide +kernel
theorem dX0_agrees_6 : decode cX0_agrees 6 = .ok (.getfield 26, 3) := by decide +kernel
theorem dX0_agrees_9 : decode cX0_agrees 9 = .ok (.if_icmp .ge 109, 3) := by decide +kernel
theorem dX0_agrees_12 : decode cX0_agrees 12 = .ok (.aload_n 0, 1) := by decide +kernel
theorem dX0_agrees_13 : decode cX0_agrees 13 = .ok (.getfield 14, 3) := by decide +kernel
theorem dX0_agrees_16 : decode cX0_agrees 16 = .ok (.iload 4, 2) := by decide +kernel
theorem dX0_agrees_18 : decode cX0_agrees 18 = .ok (.invokevirtual 34, 3) := by decide +kernel
theorem dX0_agrees_21 : decode cX0_agrees 21 = .ok (.istore 5, 2) := by decide +kernel
theorem dX0_agrees_23 : decode cX0_agrees 23 = .ok (.aload_n 0, 1) := by decide +kernel
theorem dX0_agrees_24 : decode cX0_agrees 24 = .ok (.getfield 20, 3) := by decide +kernel
theorem dX0_agrees_27 : decode cX0_agrees 27 = .ok (.iload 4, 2) := by decide +kernel
theorem dX0_agrees_29 : decode cX0_agrees 29 = .ok (.invokevirtual 34, 3) := by decide +kernel
theorem dX0_agrees_32 : decode cX0_agrees 32 = .ok (.istore 6, 2) := by decide +kernel
theorem dX0_agrees_34 : decode cX0_agrees 34 = .ok (.iload 6, 2) := by decide +kernel
theorem dX0_agrees_36 : decode cX0_agrees 36 = .ok (.aload_n 2, 1) := by decide +kernel
theorem dX0_agrees_37 : decode cX0_agrees 37 = .ok (.aload_n 1, 1) := by decide +kernel
theorem dX0_agrees_38 : decode cX0_agrees 38 = .ok (.iload 5, 2) := by decide +kernel
theorem dX0_agrees_40 : decode cX0_agrees 40 = .ok (.iload 6, 2) := by decide +kernel
theorem dX0_agrees_42 : decode cX0_agrees 42 = .ok (.invokevirtual 38, 3) := by decide +kernel
theorem dX0_agrees_45 : decode cX0_agrees 45 = .ok (.invokevirtual 34, 3) := by decide +kernel
theorem dX0_agrees_48 : decode cX0_agrees 48 = .ok (.if_icmp .ge 7, 3) := by decide +kernel
theorem dX0_agrees_51 : decode cX0_agrees 51 = .ok (.iconst 1, 1) := by decide +kernel
theorem dX0_agrees_52 : decode cX0_agrees 52 = .ok (.goto 4, 3) := by decide +kernel
theorem dX0_agrees_55 : decode cX0_agrees 55 = .ok (.iconst 0, 1) := by decide +kernel
theorem dX0_agrees_56 : decode cX0_agrees 56 = .ok (.istore 7, 2) := by decide +kernel
theorem dX0_agrees_58 : decode cX0_agrees 58 = .ok (.iload 5, 2) := by decide +kernel
theorem dX0_agrees_60 : decode cX0_agrees 60 = .ok (.iload_n 3, 1) := by decide +kernel
theorem dX0_agrees_61 : decode cX0_agrees 61 = .ok (.if_icmp .ne 7, 3) := by decide +kernel
theorem dX0_agrees_64 : decode cX0_agrees 64 = .ok (.iconst 1, 1) := by decide +kernel
theorem dX0_agrees_65 : decode cX0_agrees 65 = .ok (.goto 12, 3) := by decide +kernel
theorem dX0_agrees_68 : decode cX0_agrees 68 = .ok (.aload_n 1, 1) := by decide +kernel
theorem dX0_agrees_69 : decode cX0_agrees 69 = .ok (.getfield 44, 3) := by decide +kernel
theorem dX0_agrees_72 : decode cX0_agrees 72 = .ok (.iload 5, 2) := by decide +kernel
theorem dX0_agrees_74 : decode cX0_agrees 74 = .ok (.invokevirtual 34, 3) := by decide +kernel
theorem dX0_agrees_77 : decode cX0_agrees 77 = .ok (.istore 8, 2) := by decide +kernel
theorem dX0_agrees_79 : decode cX0_agrees 79 = .ok (.aload_n 1, 1) := by decide +kernel
theorem dX0_agrees_80 : decode cX0_agrees 80 = .ok (.iload 8, 2) := by decide +kernel
theorem dX0_agrees_82 : decode cX0_agrees 82 = .ok (.iload 7, 2) := by decide +kernel
theorem dX0_agrees_84 : decode cX0_agrees 84 = .ok (.iload 6, 2) := by decide +kernel
theorem dX0_agrees_86 : decode cX0_agrees 86 = .ok (.invokevirtual 47, 3) := by decide +kernel
theorem dX0_agrees_89 : decode cX0_agrees 89 = .ok (.aload_n 0, 1) := by decide +kernel
theorem dX0_agrees_90 : decode cX0_agrees 90 = .ok (.getfield 23, 3) := by decide +kernel
theorem dX0_agrees_93 : decode cX0_agrees 93 = .ok (.iload 4, 2) := by decide +kernel
theorem dX0_agrees_95 : decode cX0_agrees 95 = .ok (.invokevirtual 34, 3) := by decide +kernel
theorem dX0_agrees_98 : decode cX0_agrees 98 = .ok (.iconst 1, 1) := by decide +kernel
theorem dX0_agrees_99 : decode cX0_agrees 99 = .ok (.if_icmp .ne 7, 3) := by decide +kernel
theorem dX0_agrees_102 : decode cX0_agrees 102 = .ok (.iconst 1, 1) := by decide +kernel
theorem dX0_agrees_103 : decode cX0_agrees 103 = .ok (.goto 4, 3) := by decide +kernel
theorem dX0_agrees_106 : decode cX0_agrees 106 = .ok (.iconst 0, 1) := by decide +kernel
theorem dX0_agrees_107 : decode cX0_agrees 107 = .ok (.if_icmp .eq 5, 3) := by decide +kernel
theorem dX0_agrees_110 : decode cX0_agrees 110 = .ok (.iconst 0, 1) := by decide +kernel
theorem dX0_agrees_111 : decode cX0_agrees 111 = .ok (.ireturn, 1) := by decide +kernel
theorem dX0_agrees_112 : decode cX0_agrees 112 = .ok (.iinc 4 1, 3) := by decide +kernel
theorem dX0_agrees_115 : decode cX0_agrees 115 = .ok (.goto (-112), 3) := by decide +kernel
theorem dX0_agrees_118 : decode cX0_agrees 118 = .ok (.iconst 1, 1) := by decide +kernel
theorem dX0_agrees_119 : decode cX0_agrees 119 = .ok (.ireturn, 1) := by decide +kernel
set_option maxRecDepth 20000 in
theorem ggX1_init_X3_init : GoodIn wsX1_init wsX3_init := goodIn_r _ [11, 12, 2, 3, 13, 14, 15] (by decide +kernel) (by decide +kernel)
set_option maxRecDepth 20000 in
theorem gX1_init_X3_init : GoodIn wsX1_init (wsX3_init) := ggX1_init_X3_init
theorem dX1_init_0 : decode cX1_init 0 = .ok (.aload_n 0, 1) := by decide +kernel
theorem dX1_init_1 : decode cX1_init 1 = .ok (.invokespecial 3, 3) := by decide +kernel
theorem dX1_init_4 : decode cX1_init 4 = .ok (.aload_n 0, 1) := by decide +kernel
theorem dX1_init_5 : decode cX1_init 5 = .ok (.new 9, 3) := by decide +kernel
theorem dX1_init_8 : decode cX1_init 8 = .ok (.dup, 1) := by decide +kernel
theorem dX1_init_9 : decode cX1_init 9 = .ok (.bipush 6, 2) := by decide +kernel
theorem dX1_init_11 : decode cX1_init 11 = .ok (.invokespecial 11, 3) := by decide +kernel
theorem dX1_init_14 : decode cX1_init 14 = .ok (.putfield 14, 3) := by decide +kernel
theorem dX1_init_17 : decode cX1_init 17 = .ok (.aload_n 0, 1) := by decide +kernel
theorem dX1_init_18 : decode cX1_init 18 = .ok (.new 9, 3) := by decide +kernel
theorem dX1_init_21 : decode cX1_init 21 = .ok (.dup, 1) := by decide +kernel
theorem dX1_init_22 : decode cX1_init 22 = .ok (.bipush 6, 2) := by decide +kernel
theorem dX1_init_24 : decode cX1_init 24 = .ok (.invokespecial 11, 3) := by decide +kernel
theorem dX1_init_27 : decode cX1_init 27 = .ok (.putfield 20, 3) := by decide +kernel
theorem dX1_init_30 : decode cX1_init 30 = .ok (.return_, 1) := by decide +kernel
set_option maxRecDepth 20000 in
theorem ggX1_begin_X3_set : GoodIn wsX1_begin wsX3_set := goodIn_r _ [10, 11, 36] (by decide +kernel) (by decide +kernel)
set_option maxRecDepth 20000 in
theorem gX1_begin_X3_set : GoodIn wsX1_begin (wsV RX1 30 RX3 yX3_set wsX3_set) := goodIn_app (goodIn_of _ (by decide +kernel)) ggX1_begin_X3_set
set_option maxRecDepth 20000 in
theorem ggX1_begin_X3_copy : GoodIn wsX1_begin wsX3_copy := goodIn_r _ [15, 11, 16, 17, 18, 9, 19, 36] (by decide +kernel) (by decide +kernel)
set_option maxRecDepth 20000 in
theorem gX1_begin_X3_copy : GoodIn wsX1_begin (wsV RX1 37 RX3 yX3_copy wsX3_copy) := goodIn_app (goodIn_of _ (by decide +kernel)) ggX1_begin_X3_copy
theorem dX1_begin_0 : decode cX1_begin 0 = .ok (.aload_n 0, 1) := by decide +kernel
theorem dX1_begin_1 : decode cX1_begin 1 = .ok (.aload_n 1, 1) := by decide +kernel
theorem dX1_begin_2 : decode cX1_begin 2 = .ok (.getfield 23, 3) := by decide +kernel
theorem dX1_begin_5 : decode cX1_begin 5 = .ok (.putfield 29, 3) := by decide +kernel
theorem dX1_begin_8 : decode cX1_begin 8 = .ok (.iconst 0, 1) := by decide +kernel
theorem dX1_begin_9 : decode cX1_begin 9 = .ok (.istore_n 2, 1) := by decide +kernel
theorem dX1_begin_10 : decode cX1_begin 10 = .ok (.iload_n 2, 1) := by decide +kernel
theorem dX1_begin_11 : decode cX1_begin 11 = .ok (.aload_n 0, 1) := by decide +kernel
theorem dX1_begin_12 : decode cX1_begin 12 = .ok (.getfield 29, 3) := by decide +kernel
theorem dX1_begin_15 : decode cX1_begin 15 = .ok (.if_icmp .ge 18, 3) := by decide +kernel
theorem dX1_begin_18 : decode cX1_begin 18 = .ok (.aload_n 0, 1) := by decide +kernel
theorem dX1_begin_19 : decode cX1_begin 19 = .ok (.getfield 14, 3) := by decide +kernel
theorem dX1_begin_22 : decode cX1_begin 22 = .ok (.iload_n 2, 1) := by decide +kernel
theorem dX1_begin_23 : decode cX1_begin 23 = .ok (.iload_n 2, 1) := by decide +kernel
theorem dX1_begin_24 : decode cX1_begin 24 = .ok (.invokevirtual 30, 3) := by decide +kernel
theorem dX1_begin_27 : decode cX1_begin 27 = .ok (.iinc 2 1, 3) := by decide +kernel
theorem dX1_begin_30 : decode cX1_begin 30 = .ok (.goto (-20), 3) := by decide +kernel
theorem dX1_begin_33 : decode cX1_begin 33 = .ok (.aload_n 0, 1) := by decide +kernel
theorem dX1_begin_34 : decode cX1_begin 34 = .ok (.getfield 20, 3) := by decide +kernel
theorem dX1_begin_37 : decode cX1_begin 37 = .ok (.aload_n 1, 1) := by decide +kernel
theorem dX1_begin_38 : decode cX1_begin 38 = .ok (.getfield 34, 3) := by decide +kernel
theorem dX1_begin_41 : decode cX1_begin 41 = .ok (.invokevirtual 37, 3) := by decide +kernel
theorem dX1_begin_44 : decode cX1_begin 44 = .ok (.aload_n 0, 1) := by decide +kernel
theorem dX1_begin_45 : decode cX1_begin 45 = .ok (.aload_n 1, 1) := by decide +kernel
theorem dX1_begin_46 : decode cX1_begin 46 = .ok (.getfield 41, 3) := by decide +kernel
theorem dX1_begin_49 : decode cX1_begin 49 = .ok (.putfield 44, 3) := by decide +kernel
theorem dX1_begin_52 : decode cX1_begin 52 = .ok (.aload_n 0, 1) := by decide +kernel
theorem dX1_begin_53 : decode cX1_begin 53 = .ok (.iconst 0, 1) := by decide +kernel
theorem dX1_begin_54 : decode cX1_begin 54 = .ok (.putfield 45, 3) := by decide +kernel
theorem dX1_begin_57 : decode cX1_begin 57 = .ok (.return_, 1) := by decide +kernel
set_option maxRecDepth 20000 in
theorem ggX1_copy_X3_copy : GoodIn wsX1_copy wsX3_copy := goodIn_r _ [10, 11, 12, 13, 14, 9, 15, 21] (by decide +kernel) (by decide +kernel)
set_option maxRecDepth 20000 in
theorem gX1_copy_X3_copy : GoodIn wsX1_copy (wsV RX1 37 RX3 yX3_copy wsX3_copy) := goodIn_app (goodIn_of _ (by decide +kernel)) ggX1_copy_X3_copy
theorem dX1_copy_0 : decode cX1_copy 0 = .ok (.aload_n 0, 1) := by decide +kernel
theorem dX1_copy_1 : decode cX1_copy 1 = .ok (.aload_n 1, 1) := by decide +kernel
theorem dX1_copy_2 : decode cX1_copy 2 = .ok (.getfield 29, 3) := by decide +kernel
theorem dX1_copy_5 : decode cX1_copy 5 = .ok (.putfield 29, 3) := by decide +kernel
theorem dX1_copy_8 : decode cX1_copy 8 = .ok (.aload_n 0, 1) := by decide +kernel
theorem dX1_copy_9 : decode cX1_copy 9 = .ok (.getfield 14, 3) := by decide +kernel
theorem dX1_copy_12 : decode cX1_copy 12 = .ok (.aload_n 1, 1) := by decide +kernel
theorem dX1_copy_13 : decode cX1_copy 13 = .ok (.getfield 14, 3) := by decide +kernel
theorem dX1_copy_16 : decode cX1_copy 16 = .ok (.invokevirtual 37, 3) := by decide +kernel
theorem dX1_copy_19 : decode cX1_copy 19 = .ok (.aload_n 0, 1) := by decide +kernel
theorem dX1_copy_20 : decode cX1_copy 20 = .ok (.getfield 20, 3) := by decide +kernel
theorem dX1_copy_23 : decode cX1_copy 23 = .ok (.aload_n 1, 1) := by decide +kernel
theorem dX1_copy_24 : decode cX1_copy 24 = .ok (.getfield 20, 3) := by decide +kernel
theorem dX1_copy_27 : decode cX1_copy 27 = .ok (.invokevirtual 37, 3) := by decide +kernel
theorem dX1_copy_30 : decode cX1_copy 30 = .ok (.aload_n 0, 1) := by decide +kernel
theorem dX1_copy_31 : decode cX1_copy 31 = .ok (.aload_n 1, 1) := by decide +kernel
theorem dX1_copy_32 : decode cX1_copy 32 = .ok (.getfield 44, 3) := by decide +kernel
theorem dX1_copy_35 : decode cX1_copy 35 = .ok (.putfield 44, 3) := by decide +kernel
theorem dX1_copy_38 : decode cX1_copy 38 = .ok (.aload_n 0, 1) := by decide +kernel
theorem dX1_copy_39 : decode cX1_copy 39 = .ok (.aload_n 1, 1) := by decide +kernel
theorem dX1_copy_40 : decode cX1_copy 40 = .ok (.getfield 45, 3) := by decide +kernel
theorem dX1_copy_43 : decode cX1_copy 43 = .ok (.putfield 45, 3) := by decide +kernel
theorem dX1_copy_46 : decode cX1_copy 46 = .ok (.return_, 1) := by decide +kernel
theorem dX1_isLit_0 : decode cX1_isLit 0 = .ok (.aload_n 0, 1) := by decide +kernel
theorem dX1_isLit_1 : decode cX1_isLit 1 = .ok (.getfield 44, 3) := by decide +kernel
theorem dX1_isLit_4 : decode cX1_isLit 4 = .ok (.iload_n 1, 1) := by decide +kernel
theorem dX1_isLit_5 : decode cX1_isLit 5 = .ok (.ishr, 1) := by decide +kernel
theorem dX1_isLit_6 : decode cX1_isLit 6 = .ok (.iconst 1, 1) := by decide +kernel
theorem dX1_isLit_7 : decode cX1_isLit 7 = .ok (.iand, 1) := by decide +kernel
theorem dX1_isLit_8 : decode cX1_isLit 8 = .ok (.iconst 1, 1) := by decide +kernel
theorem dX1_isLit_9 : decode cX1_isLit 9 = .ok (.if_icmp .ne 7, 3) := by decide +kernel
theorem dX1_isLit_12 : decode cX1_isLit 12 = .ok (.iconst 1, 1) := by decide +kernel
theorem dX1_isLit_13 : decode cX1_isLit 13 = .ok (.goto 4, 3) := by decide +kernel
theorem dX1_isLit_16 : decode cX1_isLit 16 = .ok (.iconst 0, 1) := by decide +kernel
theorem dX1_isLit_17 : decode cX1_isLit 17 = .ok (.ireturn, 1) := by decide +kernel
set_option maxRecDepth 20000 in
theorem ggX1_lanternAt_X3_get : GoodIn wsX1_lanternAt wsX3_get := goodIn_r _ [7, 8, 14] (by decide +kernel) (by decide +kernel)
set_option maxRecDepth 20000 in
theorem gX1_lanternAt_X3_get : GoodIn wsX1_lanternAt (wsV RX1 48 RX3 yX3_get wsX3_get) := goodIn_app (goodIn_of _ (by decide +kernel)) ggX1_lanternAt_X3_get
theorem dX1_lanternAt_0 : decode cX1_lanternAt 0 = .ok (.iconst 0, 1) := by decide +kernel
theorem dX1_lanternAt_1 : decode cX1_lanternAt 1 = .ok (.istore_n 2, 1) := by decide +kernel
theorem dX1_lanternAt_2 : decode cX1_lanternAt 2 = .ok (.iload_n 2, 1) := by decide +kernel
theorem dX1_lanternAt_3 : decode cX1_lanternAt 3 = .ok (.aload_n 0, 1) := by decide +kernel
theorem dX1_lanternAt_4 : decode cX1_lanternAt 4 = .ok (.getfield 29, 3) := by decide +kernel
theorem dX1_lanternAt_7 : decode cX1_lanternAt 7 = .ok (.if_icmp .ge 23, 3) := by decide +kernel
theorem dX1_lanternAt_10 : decode cX1_lanternAt 10 = .ok (.aload_n 0, 1) := by decide +kernel
theorem dX1_lanternAt_11 : decode cX1_lanternAt 11 = .ok (.getfield 14, 3) := by decide +kernel
theorem dX1_lanternAt_14 : decode cX1_lanternAt 14 = .ok (.iload_n 2, 1) := by decide +kernel
theorem dX1_lanternAt_15 : decode cX1_lanternAt 15 = .ok (.invokevirtual 48, 3) := by decide +kernel
theorem dX1_lanternAt_18 : decode cX1_lanternAt 18 = .ok (.iload_n 1, 1) := by decide +kernel
theorem dX1_lanternAt_19 : decode cX1_lanternAt 19 = .ok (.if_icmp .ne 5, 3) := by decide +kernel
theorem dX1_lanternAt_22 : decode cX1_lanternAt 22 = .ok (.iload_n 2, 1) := by decide +kernel
theorem dX1_lanternAt_23 : decode cX1_lanternAt 23 = .ok (.ireturn, 1) := by decide +kernel
theorem dX1_lanternAt_24 : decode cX1_lanternAt 24 = .ok (.iinc 2 1, 3) := by decide +kernel
theorem dX1_lanternAt_27 : decode cX1_lanternAt 27 = .ok (.goto (-25), 3) := by decide +kernel
theorem dX1_lanternAt_30 : decode cX1_lanternAt 30 = .ok (.iconst 0, 1) := by decide +kernel
theorem dX1_lanternAt_31 : decode cX1_lanternAt 31 = .ok (.ireturn, 1) := by decide +kernel
set_option maxRecDepth 20000 in
theorem ggX1_litCount_J6_bitCount_0f7a4 : GoodIn wsX1_litCount wsJ6_bitCount_0f7a4 := goodIn_r _ [5, 6, 7, 8] (by decide +kernel) (by decide +kernel)
set_option maxRecDepth 20000 in
theorem gX1_litCount_J6_bitCount_0f7a4 : GoodIn wsX1_litCount (va_wsS RX1 52 yJ6_bitCount_0f7a4 wsJ6_bitCount_0f7a4) := goodIn_app (goodIn_of _ (by decide +kernel)) ggX1_litCount_J6_bitCount_0f7a4
theorem dX1_litCount_0 : decode cX1_litCount 0 = .ok (.aload_n 0, 1) := by decide +kernel
theorem dX1_litCount_1 : decode cX1_litCount 1 = .ok (.getfield 44, 3) := by decide +kernel
theorem dX1_litCount_4 : decode cX1_litCount 4 = .ok (.invokestatic 52, 3) := by decide +kernel
theorem dX1_litCount_7 : decode cX1_litCount 7 = .ok (.ireturn, 1) := by decide +kernel
set_option maxRecDepth 20000 in
theorem ggX1_oilInAll_X3_get : GoodIn wsX1_oilInAll wsX3_get := goodIn_r _ [7, 8, 14] (by decide +kernel) (by decide +kernel)
set_option maxRecDepth 20000 in
theorem gX1_oilInAll_X3_get : GoodIn wsX1_oilInAll (wsV RX1 48 RX3 yX3_get wsX3_get) := goodIn_app (goodIn_of _ (by decide +kernel)) ggX1_oilInAll_X3_get
theorem dX1_oilInAll_0 : decode cX1_oilInAll 0 = .ok (.iconst 0, 1) := by decide +kernel
theorem dX1_oilInAll_1 : decode cX1_oilInAll 1 = .ok (.istore_n 1, 1) := by decide +kernel
theorem dX1_oilInAll_2 : decode cX1_oilInAll 2 = .ok (.iconst 0, 1) := by decide +kernel
theorem dX1_oilInAll_3 : decode cX1_oilInAll 3 = .ok (.istore_n 2, 1) := by decide +kernel
theorem dX1_oilInAll_4 : decode cX1_oilInAll 4 = .ok (.iload_n 2, 1) := by decide +kernel
theorem dX1_oilInAll_5 : decode cX1_oilInAll 5 = .ok (.aload_n 0, 1) := by decide +kernel
theorem dX1_oilInAll_6 : decode cX1_oilInAll 6 = .ok (.getfield 29, 3) := by decide +kernel
theorem dX1_oilInAll_9 : decode cX1_oilInAll 9 = .ok (.if_icmp .ge 20, 3) := by decide +kernel
theorem dX1_oilInAll_12 : decode cX1_oilInAll 12 = .ok (.iload_n 1, 1) := by decide +kernel
theorem dX1_oilInAll_13 : decode cX1_oilInAll 13 = .ok (.aload_n 0, 1) := by decide +kernel
theorem dX1_oilInAll_14 : decode cX1_oilInAll 14 = .ok (.getfield 20, 3) := by decide +kernel
theorem dX1_oilInAll_17 : decode cX1_oilInAll 17 = .ok (.iload_n 2, 1) := by decide +kernel
theorem dX1_oilInAll_18 : decode cX1_oilInAll 18 = .ok (.invokevirtual 48, 3) := by decide +kernel
theorem dX1_oilInAll_21 : decode cX1_oilInAll 21 = .ok (.iadd, 1) := by decide +kernel
theorem dX1_oilInAll_22 : decode cX1_oilInAll 22 = .ok (.istore_n 1, 1) := by decide +kernel
theorem dX1_oilInAll_23 : decode cX1_oilInAll 23 = .ok (.iinc 2 1, 3) := by decide +kernel
theorem dX1_oilInAll_26 : decode cX1_oilInAll 26 = .ok (.goto (-22), 3) := by decide +kernel
theorem dX1_oilInAll_29 : decode cX1_oilInAll 29 = .ok (.iload_n 1, 1) := by decide +kernel
theorem dX1_oilInAll_30 : decode cX1_oilInAll 30 = .ok (.ireturn, 1) := by decide +kernel
set_option maxRecDepth 20000 in
theorem ggX1_litFor_X1_isLit : GoodIn wsX1_litFor wsX1_isLit := goodIn_r _ [10, 11, 18, 19, 20, 21, 22] (by decide +kernel) (by decide +kernel)
set_option maxRecDepth 20000 in
theorem gX1_litFor_X1_isLit : GoodIn wsX1_litFor (wsV RX1 57 RX1 yX1_isLit wsX1_isLit) := goodIn_app (goodIn_of _ (by decide +kernel)) ggX1_litFor_X1_isLit
set_option maxRecDepth 20000 in
theorem ggX1_litFor_X3_get : GoodIn wsX1_litFor wsX3_get := goodIn_r _ [16, 17, 23] (by decide +kernel) (by decide +kernel)
set_option maxRecDepth 20000 in
theorem gX1_litFor_X3_get : GoodIn wsX1_litFor (wsV RX1 48 RX3 yX3_get wsX3_get) := goodIn_app (goodIn_of _ (by decide +kernel)) ggX1_litFor_X3_get
theorem dX1_litFor_0 : decode cX1_litFor 0 = .ok (.aload_n 0, 1) := by decide +kernel
theorem dX1_litFor_1 : decode cX1_litFor 1 = .ok (.iload_n 1, 1) := by decide +kernel
theorem dX1_litFor_2 : decode cX1_litFor 2 = .ok (.invokevirtual 57, 3) := by decide +kernel
theorem dX1_litFor_5 : decode cX1_litFor 5 = .ok (.ifCond .eq 18, 3) := by decide +kernel
theorem dX1_litFor_8 : decode cX1_litFor 8 = .ok (.aload_n 0, 1) := by decide +kernel
theorem dX1_litFor_9 : decode cX1_litFor 9 = .ok (.getfield 20, 3) := by decide +kernel
theorem dX1_litFor_12 : decode cX1_litFor 12 = .ok (.iload_n 1, 1) := by decide +kernel
theorem dX1_litFor_13 : decode cX1_litFor 13 = .ok (.invokevirtual 48, 3) := by decide +kernel
theorem dX1_litFor_16 : decode cX1_litFor 16 = .ok (.iload_n 2, 1) := by decide +kernel
theorem dX1_litFor_17 : decode cX1_litFor 17 = .ok (.invokestatic 61, 3) := by decide +kernel
theorem dX1_litFor_20 : decode cX1_litFor 20 = .ok (.goto 4, 3) := by decide +kernel
theorem dX1_litFor_23 : decode cX1_litFor 23 = .ok (.iconst 0, 1) := by decide +kernel
theorem dX1_litFor_24 : decode cX1_litFor 24 = .ok (.ireturn, 1) := by decide +kernel
set_option maxRecDepth 20000 in
theorem ggX1_goOn_X3_get : GoodIn wsX1_goOn wsX3_get := goodIn_r _ [14, 15, 55] (by decide +kernel) (by decide +kernel)
set_option maxRecDepth 20000 in
theorem gX1_goOn_X3_get : GoodIn wsX1_goOn (wsV RX1 48 RX3 yX3_get wsX3_get) := goodIn_app (goodIn_of _ (by decide +kernel)) ggX1_goOn_X3_get
set_option maxRecDepth 20000 in
theorem ggX1_goOn_X1_isLit : GoodIn wsX1_goOn wsX1_isLit := goodIn_r _ [20, 8, 39, 40, 41, 42, 43] (by decide +kernel) (by decide +kernel)
set_option maxRecDepth 20000 in
theorem gX1_goOn_X1_isLit : GoodIn wsX1_goOn (wsV RX1 57 RX1 yX1_isLit wsX1_isLit) := goodIn_app (goodIn_of _ (by decide +kernel)) ggX1_goOn_X1_isLit
set_option maxRecDepth 20000 in
theorem ggX1_goOn_X1_litFor : GoodIn wsX1_goOn wsX1_litFor := goodIn_r _ [24, 3, 4, 5, 6, 7, 16, 17, 18, 19, 20, 8, 10, 11, 12, 13, 14, 15, 39, 40, 41, 42, 43, 55] (by decide +kernel) (by decide +kernel)
set_option maxRecDepth 20000 in
theorem gX1_goOn_X1_litFor : GoodIn wsX1_goOn (wsV RX1 67 RX1 yX1_litFor wsX1_litFor) := goodIn_app (goodIn_of _ (by decide +kernel)) ggX1_goOn_X1_litFor
set_option maxRecDepth 20000 in
theorem ggX1_goOn_X3_set : GoodIn wsX1_goOn wsX3_set := goodIn_r _ [28, 15, 55] (by decide +kernel) (by decide +kernel)
set_option maxRecDepth 20000 in
theorem gX1_goOn_X3_set : GoodIn wsX1_goOn (wsV RX1 30 RX3 yX3_set wsX3_set) := goodIn_app (goodIn_of _ (by decide +kernel)) ggX1_goOn_X3_set
set_option maxRecDepth 20000 in
theorem ggX1_goOn_X5_round : GoodIn wsX1_goOn wsX5_round := goodIn_r _ [33, 34, 35, 36, 37, 38, 44, 45, 46, 47, 48, 49, 50, 51, 52, 53, 54] (by decide +kernel) (by decide +kernel)
set_option maxRecDepth 20000 in
theorem gX1_goOn_X5_round : GoodIn wsX1_goOn (wsV RX1 73 RX5 yX5_round wsX5_round) := goodIn_app (goodIn_of _ (by decide +kernel)) ggX1_goOn_X5_round
theorem dX1_goOn_0 : decode cX1_goOn 0 = .ok (.iconst 0, 1) := by decide +kernel
theorem dX1_goOn_1 : decode cX1_goOn 1 = .ok (.istore 4, 2) := by decide +kernel
theorem dX1_goOn_3 : decode cX1_goOn 3 = .ok (.iload 4, 2) := by decide +kernel
theorem dX1_goOn_5 : decode cX1_goOn 5 = .ok (.aload_n 0, 1) := by decide +kernel
theorem dX1_goOn_6 : decode cX1_goOn 6 = .ok (.getfield 29, 3) := by decide +kernel
theorem dX1_goOn_9 : decode cX1_goOn 9 = .ok (.if_icmp .ge 148, 3) := by decide +kernel
theorem dX1_goOn_12 : decode cX1_goOn 12 = .ok (.aload_n 0, 1) := by decide +kernel
theorem dX1_goOn_13 : decode cX1_goOn 13 = .ok (.getfield 14, 3) := by decide +kernel
theorem dX1_goOn_16 : decode cX1_goOn 16 = .ok (.iload 4, 2) := by decide +kernel
theorem dX1_goOn_18 : decode cX1_goOn 18 = .ok (.invokevirtual 48, 3) := by decide +kernel
theorem dX1_goOn_21 : decode cX1_goOn 21 = .ok (.istore 5, 2) := by decide +kernel
theorem dX1_goOn_23 : decode cX1_goOn 23 = .ok (.aload_n 3, 1) := by decide +kernel
theorem dX1_goOn_24 : decode cX1_goOn 24 = .ok (.iload 5, 2) := by decide +kernel
theorem dX1_goOn_26 : decode cX1_goOn 26 = .ok (.invokevirtual 48, 3) := by decide +kernel
theorem dX1_goOn_29 : decode cX1_goOn 29 = .ok (.istore 6, 2) := by decide +kernel
theorem dX1_goOn_31 : decode cX1_goOn 31 = .ok (.aload_n 0, 1) := by decide +kernel
theorem dX1_goOn_32 : decode cX1_goOn 32 = .ok (.iload 4, 2) := by decide +kernel
theorem dX1_goOn_34 : decode cX1_goOn 34 = .ok (.invokevirtual 57, 3) := by decide +kernel
theorem dX1_goOn_37 : decode cX1_goOn 37 = .ok (.ifCond .eq 92, 3) := by decide +kernel
theorem dX1_goOn_40 : decode cX1_goOn 40 = .ok (.iload_n 2, 1) := by decide +kernel
theorem dX1_goOn_41 : decode cX1_goOn 41 = .ok (.aload_n 0, 1) := by decide +kernel
theorem dX1_goOn_42 : decode cX1_goOn 42 = .ok (.getfield 20, 3) := by decide +kernel
theorem dX1_goOn_45 : decode cX1_goOn 45 = .ok (.iload 4, 2) := by decide +kernel
theorem dX1_goOn_47 : decode cX1_goOn 47 = .ok (.invokevirtual 48, 3) := by decide +kernel
theorem dX1_goOn_50 : decode cX1_goOn 50 = .ok (.iload 6, 2) := by decide +kernel
theorem dX1_goOn_52 : decode cX1_goOn 52 = .ok (.iconst 1, 1) := by decide +kernel
theorem dX1_goOn_53 : decode cX1_goOn 53 = .ok (.isub, 1) := by decide +kernel
theorem dX1_goOn_54 : decode cX1_goOn 54 = .ok (.invokestatic 61, 3) := by decide +kernel
theorem dX1_goOn_57 : decode cX1_goOn 57 = .ok (.invokestatic 61, 3) := by decide +kernel
theorem dX1_goOn_60 : decode cX1_goOn 60 = .ok (.istore 7, 2) := by decide +kernel
theorem dX1_goOn_62 : decode cX1_goOn 62 = .ok (.iload_n 2, 1) := by decide +kernel
theorem dX1_goOn_63 : decode cX1_goOn 63 = .ok (.aload_n 0, 1) := by decide +kernel
theorem dX1_goOn_64 : decode cX1_goOn 64 = .ok (.iload 4, 2) := by decide +kernel
theorem dX1_goOn_66 : decode cX1_goOn 66 = .ok (.iload 6, 2) := by decide +kernel
theorem dX1_goOn_68 : decode cX1_goOn 68 = .ok (.invokevirtual 67, 3) := by decide +kernel
theorem dX1_goOn_71 : decode cX1_goOn 71 = .ok (.if_icmp .lt 7, 3) := by decide +kernel
theorem dX1_goOn_74 : decode cX1_goOn 74 = .ok (.iconst 1, 1) := by decide +kernel
theorem dX1_goOn_75 : decode cX1_goOn 75 = .ok (.goto 4, 3) := by decide +kernel
theorem dX1_goOn_78 : decode cX1_goOn 78 = .ok (.iconst 0, 1) := by decide +kernel
theorem dX1_goOn_79 : decode cX1_goOn 79 = .ok (.istore 8, 2) := by decide +kernel
theorem dX1_goOn_81 : decode cX1_goOn 81 = .ok (.aload_n 0, 1) := by decide +kernel
theorem dX1_goOn_82 : decode cX1_goOn 82 = .ok (.getfield 20, 3) := by decide +kernel
theorem dX1_goOn_85 : decode cX1_goOn 85 = .ok (.iload 4, 2) := by decide +kernel
theorem dX1_goOn_87 : decode cX1_goOn 87 = .ok (.aload_n 0, 1) := by decide +kernel
theorem dX1_goOn_88 : decode cX1_goOn 88 = .ok (.getfield 20, 3) := by decide +kernel
theorem dX1_goOn_91 : decode cX1_goOn 91 = .ok (.iload 4, 2) := by decide +kernel
theorem dX1_goOn_93 : decode cX1_goOn 93 = .ok (.invokevirtual 48, 3) := by decide +kernel
theorem dX1_goOn_96 : decode cX1_goOn 96 = .ok (.iload 7, 2) := by decide +kernel
theorem dX1_goOn_98 : decode cX1_goOn 98 = .ok (.isub, 1) := by decide +kernel
theorem dX1_goOn_99 : decode cX1_goOn 99 = .ok (.invokevirtual 30, 3) := by decide +kernel
theorem dX1_goOn_102 : decode cX1_goOn 102 = .ok (.aload_n 0, 1) := by decide +kernel
theorem dX1_goOn_103 : decode cX1_goOn 103 = .ok (.iload 8, 2) := by decide +kernel
theorem dX1_goOn_105 : decode cX1_goOn 105 = .ok (.ifCond .eq 17, 3) := by decide +kernel
theorem dX1_goOn_108 : decode cX1_goOn 108 = .ok (.aload_n 0, 1) := by decide +kernel
theorem dX1_goOn_109 : decode cX1_goOn 109 = .ok (.getfield 44, 3) := by decide +kernel
theorem dX1_goOn_112 : decode cX1_goOn 112 = .ok (.iconst 1, 1) := by decide +kernel
theorem dX1_goOn_113 : decode cX1_goOn 113 = .ok (.iload 4, 2) := by decide +kernel
theorem dX1_goOn_115 : decode cX1_goOn 115 = .ok (.ishl, 1) := by decide +kernel
theorem dX1_goOn_116 : decode cX1_goOn 116 = .ok (.iconst (-1), 1) := by decide +kernel
theorem dX1_goOn_117 : decode cX1_goOn 117 = .ok (.ixor, 1) := by decide +kernel
theorem dX1_goOn_118 : decode cX1_goOn 118 = .ok (.iand, 1) := by decide +kernel
theorem dX1_goOn_119 : decode cX1_goOn 119 = .ok (.goto 7, 3) := by decide +kernel
theorem dX1_goOn_122 : decode cX1_goOn 122 = .ok (.aload_n 0, 1) := by decide +kernel
theorem dX1_goOn_123 : decode cX1_goOn 123 = .ok (.getfield 44, 3) := by decide +kernel
theorem dX1_goOn_126 : decode cX1_goOn 126 = .ok (.putfield 44, 3) := by decide +kernel
theorem dX1_goOn_129 : decode cX1_goOn 129 = .ok (.aload_n 0, 1) := by decide +kernel
theorem dX1_goOn_130 : decode cX1_goOn 130 = .ok (.getfield 14, 3) := by decide +kernel
theorem dX1_goOn_133 : decode cX1_goOn 133 = .ok (.iload 4, 2) := by decide +kernel
theorem dX1_goOn_135 : decode cX1_goOn 135 = .ok (.aload_n 1, 1) := by decide +kernel
theorem dX1_goOn_136 : decode cX1_goOn 136 = .ok (.iload 5, 2) := by decide +kernel
theorem dX1_goOn_138 : decode cX1_goOn 138 = .ok (.iload_n 2, 1) := by decide +kernel
theorem dX1_goOn_139 : decode cX1_goOn 139 = .ok (.aload_n 1, 1) := by decide +kernel
theorem dX1_goOn_140 : decode cX1_goOn 140 = .ok (.getfield 70, 3) := by decide +kernel
theorem dX1_goOn_143 : decode cX1_goOn 143 = .ok (.imul, 1) := by decide +kernel
theorem dX1_goOn_144 : decode cX1_goOn 144 = .ok (.iadd, 1) := by decide +kernel
theorem dX1_goOn_145 : decode cX1_goOn 145 = .ok (.invokevirtual 73, 3) := by decide +kernel
theorem dX1_goOn_148 : decode cX1_goOn 148 = .ok (.invokevirtual 30, 3) := by decide +kernel
theorem dX1_goOn_151 : decode cX1_goOn 151 = .ok (.iinc 4 1, 3) := by decide +kernel
theorem dX1_goOn_154 : decode cX1_goOn 154 = .ok (.goto (-151), 3) := by decide +kernel
theorem dX1_goOn_157 : decode cX1_goOn 157 = .ok (.aload_n 0, 1) := by decide +kernel
theorem dX1_goOn_158 : decode cX1_goOn 158 = .ok (.dup, 1) := by decide +kernel
theorem dX1_goOn_159 : decode cX1_goOn 159 = .ok (.getfield 45, 3) := by decide +kernel
theorem dX1_goOn_162 : decode cX1_goOn 162 = .ok (.iload_n 2, 1) := by decide +kernel
theorem dX1_goOn_163 : decode cX1_goOn 163 = .ok (.iadd, 1) := by decide +kernel
theorem dX1_goOn_164 : decode cX1_goOn 164 = .ok (.putfield 45, 3) := by decide +kernel
theorem dX1_goOn_167 : decode cX1_goOn 167 = .ok (.return_, 1) := by decide +kernel
set_option maxRecDepth 20000 in
theorem ggX2_init_X3_init : GoodIn wsX2_init wsX3_init := goodIn_r _ [10, 11, 2, 3, 12, 13, 14] (by decide +kernel) (by decide +kernel)
set_option maxRecDepth 20000 in
theorem gX2_init_X3_init : GoodIn wsX2_init (wsX3_init) := ggX2_init_X3_init
theorem dX2_init_0 : decode cX2_init 0 = .ok (.aload_n 0, 1) := by decide +kernel
theorem dX2_init_1 : decode cX2_init 1 = .ok (.invokespecial 3, 3) := by decide +kernel
theorem dX2_init_4 : decode cX2_init 4 = .ok (.aload_n 0, 1) := by decide +kernel
theorem dX2_init_5 : decode cX2_init 5 = .ok (.new 9, 3) := by decide +kernel
theorem dX2_init_8 : decode cX2_init 8 = .ok (.dup, 1) := by decide +kernel
theorem dX2_init_9 : decode cX2_init 9 = .ok (.iconst 3, 1) := by decide +kernel
theorem dX2_init_10 : decode cX2_init 10 = .ok (.invokespecial 13, 3) := by decide +kernel
theorem dX2_init_13 : decode cX2_init 13 = .ok (.putfield 16, 3) := by decide +kernel
theorem dX2_init_16 : decode cX2_init 16 = .ok (.return_, 1) := by decide +kernel
set_option maxRecDepth 20000 in
theorem ggX2_firstFault_X5_clear : GoodIn wsX2_firstFault wsX5_clear := goodIn_r _ [5, 6, 7, 8, 9, 10, 11, 12, 13, 14, 15, 16, 17, 18, 19, 20, 21, 69, 70, 71, 72, 73, 74, 75, 76, 77, 78, 79, 80] (by decide +kernel) (by decide +kernel)
set_option maxRecDepth 20000 in
theorem gX2_firstFault_X5_clear : GoodIn wsX2_firstFault (wsV RX2 20 RX5 yX5_clear wsX5_clear) := goodIn_app (goodIn_of _ (by decide +kernel)) ggX2_firstFault_X5_clear
set_option maxRecDepth 20000 in
theorem ggX2_firstFault_X2_splitItem : GoodIn wsX2_firstFault wsX2_splitItem := goodIn_r _ [26, 27, 28, 29, 30, 31, 19, 32, 21, 33, 34, 35, 36, 81, 82, 80] (by decide +kernel) (by decide +kernel)
set_option maxRecDepth 20000 in
theorem gX2_firstFault_X2_splitItem : GoodIn wsX2_firstFault (wsV RX2 25 RX2 yX2_splitItem wsX2_splitItem) := goodIn_app (goodIn_of _ (by decide +kernel)) ggX2_firstFault_X2_splitItem
set_option maxRecDepth 20000 in
theorem ggX2_firstFault_X3_get : GoodIn wsX2_firstFault wsX3_get := goodIn_r _ [32, 21, 80] (by decide +kernel) (by decide +kernel)
set_option maxRecDepth 20000 in
theorem gX2_firstFault_X3_get : GoodIn wsX2_firstFault (wsV RX2 29 RX3 yX3_get wsX3_get) := goodIn_app (goodIn_of _ (by decide +kernel)) ggX2_firstFault_X3_get
set_option maxRecDepth 20000 in
theorem ggX2_firstFault_X2_tell : GoodIn wsX2_firstFault wsX2_tell := goodIn_r _ [40, 28, 27, 29, 30, 31, 19, 32, 21, 41, 42, 43, 4, 44, 8, 6, 45, 34, 35, 36, 46, 47, 48, 49, 7, 9, 10, 50, 51, 52, 53, 54, 55, 56, 57, 58, 11, 59, 60, 61, 62, 12, 63, 64, 65, 66, 67, 68, 14, 15, 81, 82, 80, 69, 70, 71, 72, 73, 74, 75, 76, 77, 78, 79] (by decide +kernel) (by decide +kernel)
set_option maxRecDepth 20000 in
theorem gX2_firstFault_X2_tell : GoodIn wsX2_firstFault (wsV RX2 33 RX2 yX2_tell wsX2_tell) := goodIn_app (goodIn_of _ (by decide +kernel)) ggX2_firstFault_X2_tell
theorem dX2_firstFault_0 : decode cX2_firstFault 0 = .ok (.aload_n 3, 1) := by decide +kernel
theorem dX2_firstFault_1 : decode cX2_firstFault 1 = .ok (.invokevirtual 20, 3) := by decide +kernel
theorem dX2_firstFault_4 : decode cX2_firstFault 4 = .ok (.iconst 0, 1) := by decide +kernel
theorem dX2_firstFault_5 : decode cX2_firstFault 5 = .ok (.istore 4, 2) := by decide +kernel
theorem dX2_firstFault_7 : decode cX2_firstFault 7 = .ok (.iconst 0, 1) := by decide +kernel
theorem dX2_firstFault_8 : decode cX2_firstFault 8 = .ok (.istore 5, 2) := by decide +kernel
theorem dX2_firstFault_10 : decode cX2_firstFault 10 = .ok (.iload 5, 2) := by decide +kernel
theorem dX2_firstFault_12 : decode cX2_firstFault 12 = .ok (.iload_n 2, 1) := by decide +kernel
theorem dX2_firstFault_13 : decode cX2_firstFault 13 = .ok (.if_icmp .ge 53, 3) := by decide +kernel
theorem dX2_firstFault_16 : decode cX2_firstFault 16 = .ok (.iload 4, 2) := by decide +kernel
theorem dX2_firstFault_18 : decode cX2_firstFault 18 = .ok (.iload_n 2, 1) := by decide +kernel
theorem dX2_firstFault_19 : decode cX2_firstFault 19 = .ok (.if_icmp .ge 47, 3) := by decide +kernel
theorem dX2_firstFault_22 : decode cX2_firstFault 22 = .ok (.aload_n 0, 1) := by decide +kernel
theorem dX2_firstFault_23 : decode cX2_firstFault 23 = .ok (.aload_n 1, 1) := by decide +kernel
theorem dX2_firstFault_24 : decode cX2_firstFault 24 = .ok (.iload 4, 2) := by decide +kernel
theorem dX2_firstFault_26 : decode cX2_firstFault 26 = .ok (.iload_n 2, 1) := by decide +kernel
theorem dX2_firstFault_27 : decode cX2_firstFault 27 = .ok (.invokevirtual 25, 3) := by decide +kernel
theorem dX2_firstFault_30 : decode cX2_firstFault 30 = .ok (.istore 6, 2) := by decide +kernel
theorem dX2_firstFault_32 : decode cX2_firstFault 32 = .ok (.iload 6, 2) := by decide +kernel
theorem dX2_firstFault_34 : decode cX2_firstFault 34 = .ok (.bipush (-4), 2) := by decide +kernel
theorem dX2_firstFault_36 : decode cX2_firstFault 36 = .ok (.if_icmp .eq 17, 3) := by decide +kernel
theorem dX2_firstFault_39 : decode cX2_firstFault 39 = .ok (.aload_n 0, 1) := by decide +kernel
theorem dX2_firstFault_40 : decode cX2_firstFault 40 = .ok (.aload_n 1, 1) := by decide +kernel
theorem dX2_firstFault_41 : decode cX2_firstFault 41 = .ok (.iload 4, 2) := by decide +kernel
theorem dX2_firstFault_43 : decode cX2_firstFault 43 = .ok (.invokevirtual 29, 3) := by decide +kernel
theorem dX2_firstFault_46 : decode cX2_firstFault 46 = .ok (.aload_n 3, 1) := by decide +kernel
theorem dX2_firstFault_47 : decode cX2_firstFault 47 = .ok (.invokevirtual 33, 3) := by decide +kernel
theorem dX2_firstFault_50 : decode cX2_firstFault 50 = .ok (.ifCond .ne 6, 3) := by decide +kernel
theorem dX2_firstFault_53 : decode cX2_firstFault 53 = .ok (.iload 4, 2) := by decide +kernel
theorem dX2_firstFault_55 : decode cX2_firstFault 55 = .ok (.ireturn, 1) := by decide +kernel
theorem dX2_firstFault_56 : decode cX2_firstFault 56 = .ok (.iload 6, 2) := by decide +kernel
theorem dX2_firstFault_58 : decode cX2_firstFault 58 = .ok (.istore 4, 2) := by decide +kernel
theorem dX2_firstFault_60 : decode cX2_firstFault 60 = .ok (.iinc 5 1, 3) := by decide +kernel
theorem dX2_firstFault_63 : decode cX2_firstFault 63 = .ok (.goto (-53), 3) := by decide +kernel
theorem dX2_firstFault_66 : decode cX2_firstFault 66 = .ok (.bipush (-4), 2) := by decide +kernel
theorem dX2_firstFault_68 : decode cX2_firstFault 68 = .ok (.ireturn, 1) := by decide +kernel
set_option maxRecDepth 20000 in
theorem ggX2_splitItem_X3_get : GoodIn wsX2_splitItem wsX3_get := goodIn_r _ [7, 8, 15] (by decide +kernel) (by decide +kernel)
set_option maxRecDepth 20000 in
theorem gX2_splitItem_X3_get : GoodIn wsX2_splitItem (wsV RX2 29 RX3 yX3_get wsX3_get) := goodIn_app (goodIn_of _ (by decide +kernel)) ggX2_splitItem_X3_get
set_option maxRecDepth 20000 in
theorem ggX2_splitItem_X3_set : GoodIn wsX2_splitItem wsX3_set := goodIn_r _ [12, 8, 15] (by decide +kernel) (by decide +kernel)
set_option maxRecDepth 20000 in
theorem gX2_splitItem_X3_set : GoodIn wsX2_splitItem (wsV RX2 41 RX3 yX3_set wsX3_set) := goodIn_app (goodIn_of _ (by decide +kernel)) ggX2_splitItem_X3_set
theorem dX2_splitItem_0 : decode cX2_splitItem 0 = .ok (.aload_n 0, 1) := by decide +kernel
theorem dX2_splitItem_1 : decode cX2_splitItem 1 = .ok (.iconst 0, 1) := by decide +kernel
theorem dX2_splitItem_2 : decode cX2_splitItem 2 = .ok (.putfield 37, 3) := by decide +kernel
theorem dX2_splitItem_5 : decode cX2_splitItem 5 = .ok (.iconst 0, 1) := by decide +kernel
theorem dX2_splitItem_6 : decode cX2_splitItem 6 = .ok (.istore 4, 2) := by decide +kernel
theorem dX2_splitItem_8 : decode cX2_splitItem 8 = .ok (.iconst 0, 1) := by decide +kernel
theorem dX2_splitItem_9 : decode cX2_splitItem 9 = .ok (.istore 5, 2) := by decide +kernel
theorem dX2_splitItem_11 : decode cX2_splitItem 11 = .ok (.iload_n 2, 1) := by decide +kernel
theorem dX2_splitItem_12 : decode cX2_splitItem 12 = .ok (.iconst 1, 1) := by decide +kernel
theorem dX2_splitItem_13 : decode cX2_splitItem 13 = .ok (.iadd, 1) := by decide +kernel
theorem dX2_splitItem_14 : decode cX2_splitItem 14 = .ok (.istore 6, 2) := by decide +kernel
theorem dX2_splitItem_16 : decode cX2_splitItem 16 = .ok (.iload 6, 2) := by decide +kernel
theorem dX2_splitItem_18 : decode cX2_splitItem 18 = .ok (.iload_n 3, 1) := by decide +kernel
theorem dX2_splitItem_19 : decode cX2_splitItem 19 = .ok (.if_icmp .ge 127, 3) := by decide +kernel
theorem dX2_splitItem_22 : decode cX2_splitItem 22 = .ok (.aload_n 1, 1) := by decide +kernel
theorem dX2_splitItem_23 : decode cX2_splitItem 23 = .ok (.iload 6, 2) := by decide +kernel
theorem dX2_splitItem_25 : decode cX2_splitItem 25 = .ok (.invokevirtual 29, 3) := by decide +kernel
theorem dX2_splitItem_28 : decode cX2_splitItem 28 = .ok (.istore 7, 2) := by decide +kernel
theorem dX2_splitItem_30 : decode cX2_splitItem 30 = .ok (.iload 7, 2) := by decide +kernel
theorem dX2_splitItem_32 : decode cX2_splitItem 32 = .ok (.bipush 48, 2) := by decide +kernel
theorem dX2_splitItem_34 : decode cX2_splitItem 34 = .ok (.if_icmp .lt 35, 3) := by decide +kernel
theorem dX2_splitItem_37 : decode cX2_splitItem 37 = .ok (.iload 7, 2) := by decide +kernel
theorem dX2_splitItem_39 : decode cX2_splitItem 39 = .ok (.bipush 57, 2) := by decide +kernel
theorem dX2_splitItem_41 : decode cX2_splitItem 41 = .ok (.if_icmp .gt 28, 3) := by decide +kernel
theorem dX2_splitItem_44 : decode cX2_splitItem 44 = .ok (.iload 5, 2) := by decide +kernel
theorem dX2_splitItem_46 : decode cX2_splitItem 46 = .ok (.iconst 2, 1) := by decide +kernel
theorem dX2_splitItem_47 : decode cX2_splitItem 47 = .ok (.if_icmp .ge 22, 3) := by decide +kernel
theorem dX2_splitItem_50 : decode cX2_splitItem 50 = .ok (.bipush 10, 2) := by decide +kernel
theorem dX2_splitItem_52 : decode cX2_splitItem 52 = .ok (.iload 4, 2) := by decide +kernel
theorem dX2_splitItem_54 : decode cX2_splitItem 54 = .ok (.imul, 1) := by decide +kernel
theorem dX2_splitItem_55 : decode cX2_splitItem 55 = .ok (.iload 7, 2) := by decide +kernel
theorem dX2_splitItem_57 : decode cX2_splitItem 57 = .ok (.iadd, 1) := by decide +kernel
theorem dX2_splitItem_58 : decode cX2_splitItem 58 = .ok (.bipush 48, 2) := by decide +kernel
theorem dX2_splitItem_60 : decode cX2_splitItem 60 = .ok (.isub, 1) := by decide +kernel
theorem dX2_splitItem_61 : decode cX2_splitItem 61 = .ok (.istore 4, 2) := by decide +kernel
theorem dX2_splitItem_63 : decode cX2_splitItem 63 = .ok (.iinc 5 1, 3) := by decide +kernel
theorem dX2_splitItem_66 : decode cX2_splitItem 66 = .ok (.goto 74, 3) := by decide +kernel
theorem dX2_splitItem_69 : decode cX2_splitItem 69 = .ok (.iload 7, 2) := by decide +kernel
theorem dX2_splitItem_71 : decode cX2_splitItem 71 = .ok (.bipush 44, 2) := by decide +kernel
theorem dX2_splitItem_73 : decode cX2_splitItem 73 = .ok (.if_icmp .eq 10, 3) := by decide +kernel
theorem dX2_splitItem_76 : decode cX2_splitItem 76 = .ok (.iload 7, 2) := by decide +kernel
theorem dX2_splitItem_78 : decode cX2_splitItem 78 = .ok (.bipush 59, 2) := by decide +kernel
theorem dX2_splitItem_80 : decode cX2_splitItem 80 = .ok (.if_icmp .ne 16, 3) := by decide +kernel
theorem dX2_splitItem_83 : decode cX2_splitItem 83 = .ok (.iload 5, 2) := by decide +kernel
theorem dX2_splitItem_85 : decode cX2_splitItem 85 = .ok (.ifCond .eq 11, 3) := by decide +kernel
theorem dX2_splitItem_88 : decode cX2_splitItem 88 = .ok (.aload_n 0, 1) := by decide +kernel
theorem dX2_splitItem_89 : decode cX2_splitItem 89 = .ok (.getfield 37, 3) := by decide +kernel
theorem dX2_splitItem_92 : decode cX2_splitItem 92 = .ok (.iconst 3, 1) := by decide +kernel
theorem dX2_splitItem_93 : decode cX2_splitItem 93 = .ok (.if_icmp .lt 6, 3) := by decide +kernel
theorem dX2_splitItem_96 : decode cX2_splitItem 96 = .ok (.bipush (-4), 2) := by decide +kernel
theorem dX2_splitItem_98 : decode cX2_splitItem 98 = .ok (.ireturn, 1) := by decide +kernel
theorem dX2_splitItem_99 : decode cX2_splitItem 99 = .ok (.aload_n 0, 1) := by decide +kernel
theorem dX2_splitItem_100 : decode cX2_splitItem 100 = .ok (.getfield 16, 3) := by decide +kernel
theorem dX2_splitItem_103 : decode cX2_splitItem 103 = .ok (.aload_n 0, 1) := by decide +kernel
theorem dX2_splitItem_104 : decode cX2_splitItem 104 = .ok (.getfield 37, 3) := by decide +kernel
theorem dX2_splitItem_107 : decode cX2_splitItem 107 = .ok (.iload 4, 2) := by decide +kernel
theorem dX2_splitItem_109 : decode cX2_splitItem 109 = .ok (.invokevirtual 41, 3) := by decide +kernel
theorem dX2_splitItem_112 : decode cX2_splitItem 112 = .ok (.aload_n 0, 1) := by decide +kernel
theorem dX2_splitItem_113 : decode cX2_splitItem 113 = .ok (.dup, 1) := by decide +kernel
theorem dX2_splitItem_114 : decode cX2_splitItem 114 = .ok (.getfield 37, 3) := by decide +kernel
theorem dX2_splitItem_117 : decode cX2_splitItem 117 = .ok (.iconst 1, 1) := by decide +kernel
theorem dX2_splitItem_118 : decode cX2_splitItem 118 = .ok (.iadd, 1) := by decide +kernel
theorem dX2_splitItem_119 : decode cX2_splitItem 119 = .ok (.putfield 37, 3) := by decide +kernel
theorem dX2_splitItem_122 : decode cX2_splitItem 122 = .ok (.iload 7, 2) := by decide +kernel
theorem dX2_splitItem_124 : decode cX2_splitItem 124 = .ok (.bipush 59, 2) := by decide +kernel
theorem dX2_splitItem_126 : decode cX2_splitItem 126 = .ok (.if_icmp .ne 8, 3) := by decide +kernel
theorem dX2_splitItem_129 : decode cX2_splitItem 129 = .ok (.iload 6, 2) := by decide +kernel
theorem dX2_splitItem_131 : decode cX2_splitItem 131 = .ok (.iconst 1, 1) := by decide +kernel
theorem dX2_splitItem_132 : decode cX2_splitItem 132 = .ok (.iadd, 1) := by decide +kernel
theorem dX2_splitItem_133 : decode cX2_splitItem 133 = .ok (.ireturn, 1) := by decide +kernel
theorem dX2_splitItem_134 : decode cX2_splitItem 134 = .ok (.iconst 0, 1) := by decide +kernel
theorem dX2_splitItem_135 : decode cX2_splitItem 135 = .ok (.istore 4, 2) := by decide +kernel
theorem dX2_splitItem_137 : decode cX2_splitItem 137 = .ok (.iconst 0, 1) := by decide +kernel
theorem dX2_splitItem_138 : decode cX2_splitItem 138 = .ok (.istore 5, 2) := by decide +kernel
theorem dX2_splitItem_140 : decode cX2_splitItem 140 = .ok (.iinc 6 1, 3) := by decide +kernel
theorem dX2_splitItem_143 : decode cX2_splitItem 143 = .ok (.goto (-127), 3) := by decide +kernel
theorem dX2_splitItem_146 : decode cX2_splitItem 146 = .ok (.bipush (-4), 2) := by decide +kernel
theorem dX2_splitItem_148 : decode cX2_splitItem 148 = .ok (.ireturn, 1) := by decide +kernel
set_option maxRecDepth 20000 in
theorem ggX2_tell_X3_get : GoodIn wsX2_tell wsX3_get := goodIn_r _ [7, 8, 52] (by decide +kernel) (by decide +kernel)
set_option maxRecDepth 20000 in
theorem gX2_tell_X3_get : GoodIn wsX2_tell (wsV RX2 29 RX3 yX3_get wsX3_get) := goodIn_app (goodIn_of _ (by decide +kernel)) ggX2_tell_X3_get
set_option maxRecDepth 20000 in
theorem ggX2_tell_X5_addMan : GoodIn wsX2_tell wsX5_addMan := goodIn_r _ [13, 14, 15, 16, 17, 18, 6, 19, 8, 53, 54, 55, 56, 57, 58, 59, 60, 61, 62, 63, 52] (by decide +kernel) (by decide +kernel)
set_option maxRecDepth 20000 in
theorem gX2_tell_X5_addMan : GoodIn wsX2_tell (wsV RX2 45 RX5 yX5_addMan wsX5_addMan) := goodIn_app (goodIn_of _ (by decide +kernel)) ggX2_tell_X5_addMan
set_option maxRecDepth 20000 in
theorem ggX2_tell_X5_tellOil : GoodIn wsX2_tell wsX5_tellOil := goodIn_r _ [23, 14, 24, 25, 26, 16, 17, 18, 6, 19, 8, 53, 54, 55, 56, 57, 58, 59, 60, 61, 62, 63, 52] (by decide +kernel) (by decide +kernel)
set_option maxRecDepth 20000 in
theorem gX2_tell_X5_tellOil : GoodIn wsX2_tell (wsV RX2 49 RX5 yX5_tellOil wsX5_tellOil) := goodIn_app (goodIn_of _ (by decide +kernel)) ggX2_tell_X5_tellOil
set_option maxRecDepth 20000 in
theorem ggX2_tell_X5_tellCheese : GoodIn wsX2_tell wsX5_tellCheese := goodIn_r _ [30, 26, 31, 21, 22, 12, 23, 14, 24, 25, 16, 17, 18, 6, 19, 8, 53, 54, 55, 56, 57, 58, 59, 60, 61, 62, 63, 52] (by decide +kernel) (by decide +kernel)
set_option maxRecDepth 20000 in
theorem gX2_tell_X5_tellCheese : GoodIn wsX2_tell (wsV RX2 53 RX5 yX5_tellCheese wsX5_tellCheese) := goodIn_app (goodIn_of _ (by decide +kernel)) ggX2_tell_X5_tellCheese
set_option maxRecDepth 20000 in
theorem ggX2_tell_X5_tellStep : GoodIn wsX2_tell wsX5_tellStep := goodIn_r _ [35, 36, 53, 54, 55, 56, 57, 58, 59, 60, 61, 62, 63] (by decide +kernel) (by decide +kernel)
set_option maxRecDepth 20000 in
theorem gX2_tell_X5_tellStep : GoodIn wsX2_tell (wsV RX2 56 RX5 yX5_tellStep wsX5_tellStep) := goodIn_app (goodIn_of _ (by decide +kernel)) ggX2_tell_X5_tellStep
set_option maxRecDepth 20000 in
theorem ggX2_tell_X5_addDraught : GoodIn wsX2_tell wsX5_addDraught := goodIn_r _ [40, 41, 42, 43, 16, 17, 18, 6, 19, 8, 53, 54, 55, 56, 57, 58, 59, 60, 61, 62, 63, 52] (by decide +kernel) (by decide +kernel)
set_option maxRecDepth 20000 in
theorem gX2_tell_X5_addDraught : GoodIn wsX2_tell (wsV RX2 59 RX5 yX5_addDraught wsX5_addDraught) := goodIn_app (goodIn_of _ (by decide +kernel)) ggX2_tell_X5_addDraught
set_option maxRecDepth 20000 in
theorem ggX2_tell_X5_tellSun : GoodIn wsX2_tell wsX5_tellSun := goodIn_r _ [47, 48, 49, 53, 54, 55, 56, 57, 58, 59, 60, 61, 62, 63] (by decide +kernel) (by decide +kernel)
set_option maxRecDepth 20000 in
theorem gX2_tell_X5_tellSun : GoodIn wsX2_tell (wsV RX2 63 RX5 yX5_tellSun wsX5_tellSun) := goodIn_app (goodIn_of _ (by decide +kernel)) ggX2_tell_X5_tellSun
theorem dX2_tell_0 : decode cX2_tell 0 = .ok (.aload_n 0, 1) := by decide +kernel
theorem dX2_tell_1 : decode cX2_tell 1 = .ok (.getfield 16, 3) := by decide +kernel
theorem dX2_tell_4 : decode cX2_tell 4 = .ok (.iconst 0, 1) := by decide +kernel
theorem dX2_tell_5 : decode cX2_tell 5 = .ok (.invokevirtual 29, 3) := by decide +kernel
theorem dX2_tell_8 : decode cX2_tell 8 = .ok (.istore_n 3, 1) := by decide +kernel
theorem dX2_tell_9 : decode cX2_tell 9 = .ok (.aload_n 0, 1) := by decide +kernel
theorem dX2_tell_10 : decode cX2_tell 10 = .ok (.getfield 16, 3) := by decide +kernel
theorem dX2_tell_13 : decode cX2_tell 13 = .ok (.iconst 1, 1) := by decide +kernel
theorem dX2_tell_14 : decode cX2_tell 14 = .ok (.invokevirtual 29, 3) := by decide +kernel
theorem dX2_tell_17 : decode cX2_tell 17 = .ok (.istore 4, 2) := by decide +kernel
theorem dX2_tell_19 : decode cX2_tell 19 = .ok (.iload_n 1, 1) := by decide +kernel
theorem dX2_tell_20 : decode cX2_tell 20 = .ok (.tableswitch 234 100 117 #[186, 142, 234, 234, 234, 234, 234, 234, 234, 88, 234, 110, 234, 234, 234, 164, 234, 210], 88) := by decide +kernel
theorem dX2_tell_108 : decode cX2_tell 108 = .ok (.aload_n 0, 1) := by decide +kernel
theorem dX2_tell_109 : decode cX2_tell 109 = .ok (.getfield 37, 3) := by decide +kernel
theorem dX2_tell_112 : decode cX2_tell 112 = .ok (.iconst 1, 1) := by decide +kernel
theorem dX2_tell_113 : decode cX2_tell 113 = .ok (.if_icmp .ne 15, 3) := by decide +kernel
theorem dX2_tell_116 : decode cX2_tell 116 = .ok (.aload_n 2, 1) := by decide +kernel
theorem dX2_tell_117 : decode cX2_tell 117 = .ok (.iload_n 3, 1) := by decide +kernel
theorem dX2_tell_118 : decode cX2_tell 118 = .ok (.invokevirtual 45, 3) := by decide +kernel
theorem dX2_tell_121 : decode cX2_tell 121 = .ok (.ifCond .eq 7, 3) := by decide +kernel
theorem dX2_tell_124 : decode cX2_tell 124 = .ok (.iconst 1, 1) := by decide +kernel
theorem dX2_tell_125 : decode cX2_tell 125 = .ok (.goto 4, 3) := by decide +kernel
theorem dX2_tell_128 : decode cX2_tell 128 = .ok (.iconst 0, 1) := by decide +kernel
theorem dX2_tell_129 : decode cX2_tell 129 = .ok (.ireturn, 1) := by decide +kernel
theorem dX2_tell_130 : decode cX2_tell 130 = .ok (.aload_n 0, 1) := by decide +kernel
theorem dX2_tell_131 : decode cX2_tell 131 = .ok (.getfield 37, 3) := by decide +kernel
theorem dX2_tell_134 : decode cX2_tell 134 = .ok (.iconst 3, 1) := by decide +kernel
theorem dX2_tell_135 : decode cX2_tell 135 = .ok (.if_icmp .ne 25, 3) := by decide +kernel
theorem dX2_tell_138 : decode cX2_tell 138 = .ok (.aload_n 2, 1) := by decide +kernel
theorem dX2_tell_139 : decode cX2_tell 139 = .ok (.iload_n 3, 1) := by decide +kernel
theorem dX2_tell_140 : decode cX2_tell 140 = .ok (.iload 4, 2) := by decide +kernel
theorem dX2_tell_142 : decode cX2_tell 142 = .ok (.aload_n 0, 1) := by decide +kernel
theorem dX2_tell_143 : decode cX2_tell 143 = .ok (.getfield 16, 3) := by decide +kernel
theorem dX2_tell_146 : decode cX2_tell 146 = .ok (.iconst 2, 1) := by decide +kernel
theorem dX2_tell_147 : decode cX2_tell 147 = .ok (.invokevirtual 29, 3) := by decide +kernel
theorem dX2_tell_150 : decode cX2_tell 150 = .ok (.invokevirtual 49, 3) := by decide +kernel
theorem dX2_tell_153 : decode cX2_tell 153 = .ok (.ifCond .eq 7, 3) := by decide +kernel
theorem dX2_tell_156 : decode cX2_tell 156 = .ok (.iconst 1, 1) := by decide +kernel
theorem dX2_tell_157 : decode cX2_tell 157 = .ok (.goto 4, 3) := by decide +kernel
theorem dX2_tell_160 : decode cX2_tell 160 = .ok (.iconst 0, 1) := by decide +kernel
theorem dX2_tell_161 : decode cX2_tell 161 = .ok (.ireturn, 1) := by decide +kernel
theorem dX2_tell_162 : decode cX2_tell 162 = .ok (.aload_n 0, 1) := by decide +kernel
theorem dX2_tell_163 : decode cX2_tell 163 = .ok (.getfield 37, 3) := by decide +kernel
theorem dX2_tell_166 : decode cX2_tell 166 = .ok (.iconst 1, 1) := by decide +kernel
theorem dX2_tell_167 : decode cX2_tell 167 = .ok (.if_icmp .ne 15, 3) := by decide +kernel
theorem dX2_tell_170 : decode cX2_tell 170 = .ok (.aload_n 2, 1) := by decide +kernel
theorem dX2_tell_171 : decode cX2_tell 171 = .ok (.iload_n 3, 1) := by decide +kernel
theorem dX2_tell_172 : decode cX2_tell 172 = .ok (.invokevirtual 53, 3) := by decide +kernel
theorem dX2_tell_175 : decode cX2_tell 175 = .ok (.ifCond .eq 7, 3) := by decide +kernel
theorem dX2_tell_178 : decode cX2_tell 178 = .ok (.iconst 1, 1) := by decide +kernel
theorem dX2_tell_179 : decode cX2_tell 179 = .ok (.goto 4, 3) := by decide +kernel
theorem dX2_tell_182 : decode cX2_tell 182 = .ok (.iconst 0, 1) := by decide +kernel
theorem dX2_tell_183 : decode cX2_tell 183 = .ok (.ireturn, 1) := by decide +kernel
theorem dX2_tell_184 : decode cX2_tell 184 = .ok (.aload_n 0, 1) := by decide +kernel
theorem dX2_tell_185 : decode cX2_tell 185 = .ok (.getfield 37, 3) := by decide +kernel
theorem dX2_tell_188 : decode cX2_tell 188 = .ok (.iconst 1, 1) := by decide +kernel
theorem dX2_tell_189 : decode cX2_tell 189 = .ok (.if_icmp .ne 15, 3) := by decide +kernel
theorem dX2_tell_192 : decode cX2_tell 192 = .ok (.aload_n 2, 1) := by decide +kernel
theorem dX2_tell_193 : decode cX2_tell 193 = .ok (.iload_n 3, 1) := by decide +kernel
theorem dX2_tell_194 : decode cX2_tell 194 = .ok (.invokevirtual 56, 3) := by decide +kernel
theorem dX2_tell_197 : decode cX2_tell 197 = .ok (.ifCond .eq 7, 3) := by decide +kernel
theorem dX2_tell_200 : decode cX2_tell 200 = .ok (.iconst 1, 1) := by decide +kernel
theorem dX2_tell_201 : decode cX2_tell 201 = .ok (.goto 4, 3) := by decide +kernel
theorem dX2_tell_204 : decode cX2_tell 204 = .ok (.iconst 0, 1) := by decide +kernel
theorem dX2_tell_205 : decode cX2_tell 205 = .ok (.ireturn, 1) := by decide +kernel
theorem dX2_tell_206 : decode cX2_tell 206 = .ok (.aload_n 0, 1) := by decide +kernel
theorem dX2_tell_207 : decode cX2_tell 207 = .ok (.getfield 37, 3) := by decide +kernel
theorem dX2_tell_210 : decode cX2_tell 210 = .ok (.iconst 2, 1) := by decide +kernel
theorem dX2_tell_211 : decode cX2_tell 211 = .ok (.if_icmp .ne 17, 3) := by decide +kernel
theorem dX2_tell_214 : decode cX2_tell 214 = .ok (.aload_n 2, 1) := by decide +kernel
theorem dX2_tell_215 : decode cX2_tell 215 = .ok (.iload_n 3, 1) := by decide +kernel
theorem dX2_tell_216 : decode cX2_tell 216 = .ok (.iload 4, 2) := by decide +kernel
theorem dX2_tell_218 : decode cX2_tell 218 = .ok (.invokevirtual 59, 3) := by decide +kernel
theorem dX2_tell_221 : decode cX2_tell 221 = .ok (.ifCond .eq 7, 3) := by decide +kernel
theorem dX2_tell_224 : decode cX2_tell 224 = .ok (.iconst 1, 1) := by decide +kernel
theorem dX2_tell_225 : decode cX2_tell 225 = .ok (.goto 4, 3) := by decide +kernel
theorem dX2_tell_228 : decode cX2_tell 228 = .ok (.iconst 0, 1) := by decide +kernel
theorem dX2_tell_229 : decode cX2_tell 229 = .ok (.ireturn, 1) := by decide +kernel
theorem dX2_tell_230 : decode cX2_tell 230 = .ok (.aload_n 0, 1) := by decide +kernel
theorem dX2_tell_231 : decode cX2_tell 231 = .ok (.getfield 37, 3) := by decide +kernel
theorem dX2_tell_234 : decode cX2_tell 234 = .ok (.iconst 2, 1) := by decide +kernel
theorem dX2_tell_235 : decode cX2_tell 235 = .ok (.if_icmp .ne 17, 3) := by decide +kernel
theorem dX2_tell_238 : decode cX2_tell 238 = .ok (.aload_n 2, 1) := by decide +kernel
theorem dX2_tell_239 : decode cX2_tell 239 = .ok (.iload_n 3, 1) := by decide +kernel
theorem dX2_tell_240 : decode cX2_tell 240 = .ok (.iload 4, 2) := by decide +kernel
theorem dX2_tell_242 : decode cX2_tell 242 = .ok (.invokevirtual 63, 3) := by decide +kernel
theorem dX2_tell_245 : decode cX2_tell 245 = .ok (.ifCond .eq 7, 3) := by decide +kernel
theorem dX2_tell_248 : decode cX2_tell 248 = .ok (.iconst 1, 1) := by decide +kernel
theorem dX2_tell_249 : decode cX2_tell 249 = .ok (.goto 4, 3) := by decide +kernel
theorem dX2_tell_252 : decode cX2_tell 252 = .ok (.iconst 0, 1) := by decide +kernel
theorem dX2_tell_253 : decode cX2_tell 253 = .ok (.ireturn, 1) := by decide +kernel
theorem dX2_tell_254 : decode cX2_tell 254 = .ok (.iconst 0, 1) := by decide +kernel
theorem dX2_tell_255 : decode cX2_tell 255 = .ok (.ireturn, 1) := by decide +kernel
theorem dX3_init_0 : decode cX3_init 0 = .ok (.aload_n 0, 1) := by decide +kernel
theorem dX3_init_1 : decode cX3_init 1 = .ok (.invokespecial 1, 3) := by decide +kernel
theorem dX3_init_4 : decode cX3_init 4 = .ok (.aload_n 0, 1) := by decide +kernel
theorem dX3_init_5 : decode cX3_init 5 = .ok (.iload_n 1, 1) := by decide +kernel
theorem dX3_init_6 : decode cX3_init 6 = .ok (.ifCond .ge 7, 3) := by decide +kernel
theorem dX3_init_9 : decode cX3_init 9 = .ok (.iconst 0, 1) := by decide +kernel
theorem dX3_init_10 : decode cX3_init 10 = .ok (.goto 4, 3) := by decide +kernel
theorem dX3_init_13 : decode cX3_init 13 = .ok (.iload_n 1, 1) := by decide +kernel
theorem dX3_init_14 : decode cX3_init 14 = .ok (.newarray .int, 2) := by decide +kernel
theorem dX3_init_16 : decode cX3_init 16 = .ok (.putfield 7, 3) := by decide +kernel
theorem dX3_init_19 : decode cX3_init 19 = .ok (.return_, 1) := by decide +kernel
theorem dX3_get_0 : decode cX3_get 0 = .ok (.iload_n 1, 1) := by decide +kernel
theorem dX3_get_1 : decode cX3_get 1 = .ok (.ifCond .lt 21, 3) := by decide +kernel
theorem dX3_get_4 : decode cX3_get 4 = .ok (.iload_n 1, 1) := by decide +kernel
theorem dX3_get_5 : decode cX3_get 5 = .ok (.aload_n 0, 1) := by decide +kernel
theorem dX3_get_6 : decode cX3_get 6 = .ok (.getfield 7, 3) := by decide +kernel
theorem dX3_get_9 : decode cX3_get 9 = .ok (.arraylength, 1) := by decide +kernel
theorem dX3_get_10 : decode cX3_get 10 = .ok (.if_icmp .ge 12, 3) := by decide +kernel
theorem dX3_get_13 : decode cX3_get 13 = .ok (.aload_n 0, 1) := by decide +kernel
theorem dX3_get_14 : decode cX3_get 14 = .ok (.getfield 7, 3) := by decide +kernel
theorem dX3_get_17 : decode cX3_get 17 = .ok (.iload_n 1, 1) := by decide +kernel
theorem dX3_get_18 : decode cX3_get 18 = .ok (.iaload, 1) := by decide +kernel
theorem dX3_get_19 : decode cX3_get 19 = .ok (.goto 4, 3) := by decide +kernel
theorem dX3_get_22 : decode cX3_get 22 = .ok (.iconst 0, 1) := by decide +kernel
theorem dX3_get_23 : decode cX3_get 23 = .ok (.ireturn, 1) := by decide +kernel
theorem dX3_set_0 : decode cX3_set 0 = .ok (.iload_n 1, 1) := by decide +kernel
theorem dX3_set_1 : decode cX3_set 1 = .ok (.ifCond .lt 19, 3) := by decide +kernel
theorem dX3_set_4 : decode cX3_set 4 = .ok (.iload_n 1, 1) := by decide +kernel
theorem dX3_set_5 : decode cX3_set 5 = .ok (.aload_n 0, 1) := by decide +kernel
theorem dX3_set_6 : decode cX3_set 6 = .ok (.getfield 7, 3) := by decide +kernel
theorem dX3_set_9 : decode cX3_set 9 = .ok (.arraylength, 1) := by decide +kernel
theorem dX3_set_10 : decode cX3_set 10 = .ok (.if_icmp .ge 10, 3) := by decide +kernel
theorem dX3_set_13 : decode cX3_set 13 = .ok (.aload_n 0, 1) := by decide +kernel
theorem dX3_set_14 : decode cX3_set 14 = .ok (.getfield 7, 3) := by decide +kernel
theorem dX3_set_17 : decode cX3_set 17 = .ok (.iload_n 1, 1) := by decide +kernel
theorem dX3_set_18 : decode cX3_set 18 = .ok (.iload_n 2, 1) := by decide +kernel
theorem dX3_set_19 : decode cX3_set 19 = .ok (.iastore, 1) := by decide +kernel
theorem dX3_set_20 : decode cX3_set 20 = .ok (.return_, 1) := by decide +kernel
set_option maxRecDepth 20000 in
theorem ggX3_copy_X3_get : GoodIn wsX3_copy wsX3_get := goodIn_r _ [6, 1, 7] (by decide +kernel) (by decide +kernel)
set_option maxRecDepth 20000 in
theorem gX3_copy_X3_get : GoodIn wsX3_copy (wsV RX3 13 RX3 yX3_get wsX3_get) := goodIn_app (goodIn_of _ (by decide +kernel)) ggX3_copy_X3_get
theorem dX3_copy_0 : decode cX3_copy 0 = .ok (.iconst 0, 1) := by decide +kernel
theorem dX3_copy_1 : decode cX3_copy 1 = .ok (.istore_n 2, 1) := by decide +kernel
theorem dX3_copy_2 : decode cX3_copy 2 = .ok (.iload_n 2, 1) := by decide +kernel
theorem dX3_copy_3 : decode cX3_copy 3 = .ok (.aload_n 0, 1) := by decide +kernel
theorem dX3_copy_4 : decode cX3_copy 4 = .ok (.getfield 7, 3) := by decide +kernel
theorem dX3_copy_7 : decode cX3_copy 7 = .ok (.arraylength, 1) := by decide +kernel
theorem dX3_copy_8 : decode cX3_copy 8 = .ok (.if_icmp .ge 20, 3) := by decide +kernel
theorem dX3_copy_11 : decode cX3_copy 11 = .ok (.aload_n 0, 1) := by decide +kernel
theorem dX3_copy_12 : decode cX3_copy 12 = .ok (.getfield 7, 3) := by decide +kernel
theorem dX3_copy_15 : decode cX3_copy 15 = .ok (.iload_n 2, 1) := by decide +kernel
theorem dX3_copy_16 : decode cX3_copy 16 = .ok (.aload_n 1, 1) := by decide +kernel
theorem dX3_copy_17 : decode cX3_copy 17 = .ok (.iload_n 2, 1) := by decide +kernel
theorem dX3_copy_18 : decode cX3_copy 18 = .ok (.invokevirtual 13, 3) := by decide +kernel
theorem dX3_copy_21 : decode cX3_copy 21 = .ok (.iastore, 1) := by decide +kernel
theorem dX3_copy_22 : decode cX3_copy 22 = .ok (.iinc 2 1, 3) := by decide +kernel
theorem dX3_copy_25 : decode cX3_copy 25 = .ok (.goto (-23), 3) := by decide +kernel
theorem dX3_copy_28 : decode cX3_copy 28 = .ok (.return_, 1) := by decide +kernel
theorem dX3_clear_0 : decode cX3_clear 0 = .ok (.iconst 0, 1) := by decide +kernel
theorem dX3_clear_1 : decode cX3_clear 1 = .ok (.istore_n 1, 1) := by decide +kernel
theorem dX3_clear_2 : decode cX3_clear 2 = .ok (.iload_n 1, 1) := by decide +kernel
theorem dX3_clear_3 : decode cX3_clear 3 = .ok (.aload_n 0, 1) := by decide +kernel
theorem dX3_clear_4 : decode cX3_clear 4 = .ok (.getfield 7, 3) := by decide +kernel
theorem dX3_clear_7 : decode cX3_clear 7 = .ok (.arraylength, 1) := by decide +kernel
theorem dX3_clear_8 : decode cX3_clear 8 = .ok (.if_icmp .ge 16, 3) := by decide +kernel
theorem dX3_clear_11 : decode cX3_clear 11 = .ok (.aload_n 0, 1) := by decide +kernel
theorem dX3_clear_12 : decode cX3_clear 12 = .ok (.getfield 7, 3) := by decide +kernel
theorem dX3_clear_15 : decode cX3_clear 15 = .ok (.iload_n 1, 1) := by decide +kernel
theorem dX3_clear_16 : decode cX3_clear 16 = .ok (.iconst 0, 1) := by decide +kernel
theorem dX3_clear_17 : decode cX3_clear 17 = .ok (.iastore, 1) := by decide +kernel
theorem dX3_clear_18 : decode cX3_clear 18 = .ok (.iinc 1 1, 3) := by decide +kernel
theorem dX3_clear_21 : decode cX3_clear 21 = .ok (.goto (-19), 3) := by decide +kernel
theorem dX3_clear_24 : decode cX3_clear 24 = .ok (.return_, 1) := by decide +kernel
set_option maxRecDepth 20000 in
theorem ggX4_init_X1_init : GoodIn wsX4_init wsX1_init := goodIn_r _ [9, 10, 2, 3, 11, 12, 13, 14, 15, 16, 17, 18, 19, 20, 21, 29, 24, 25, 26, 27, 28] (by decide +kernel) (by decide +kernel)
set_option maxRecDepth 20000 in
theorem gX4_init_X1_init_n15 : GoodIn wsX4_init (wsX1_init) := ggX4_init_X1_init
theorem dX4_init_0 : decode cX4_init 0 = .ok (.aload_n 0, 1) := by decide +kernel
theorem dX4_init_1 : decode cX4_init 1 = .ok (.invokespecial 1, 3) := by decide +kernel
theorem dX4_init_4 : decode cX4_init 4 = .ok (.aload_n 0, 1) := by decide +kernel
theorem dX4_init_5 : decode cX4_init 5 = .ok (.iload_n 1, 1) := by decide +kernel
theorem dX4_init_6 : decode cX4_init 6 = .ok (.ifCond .ge 7, 3) := by decide +kernel
theorem dX4_init_9 : decode cX4_init 9 = .ok (.iconst 0, 1) := by decide +kernel
theorem dX4_init_10 : decode cX4_init 10 = .ok (.goto 4, 3) := by decide +kernel
theorem dX4_init_13 : decode cX4_init 13 = .ok (.iload_n 1, 1) := by decide +kernel
theorem dX4_init_14 : decode cX4_init 14 = .ok (.anewarray 7, 3) := by decide +kernel
theorem dX4_init_17 : decode cX4_init 17 = .ok (.putfield 9, 3) := by decide +kernel
theorem dX4_init_20 : decode cX4_init 20 = .ok (.iconst 0, 1) := by decide +kernel
theorem dX4_init_21 : decode cX4_init 21 = .ok (.istore_n 2, 1) := by decide +kernel
theorem dX4_init_22 : decode cX4_init 22 = .ok (.iload_n 2, 1) := by decide +kernel
theorem dX4_init_23 : decode cX4_init 23 = .ok (.aload_n 0, 1) := by decide +kernel
theorem dX4_init_24 : decode cX4_init 24 = .ok (.getfield 9, 3) := by decide +kernel
theorem dX4_init_27 : decode cX4_init 27 = .ok (.arraylength, 1) := by decide +kernel
theorem dX4_init_28 : decode cX4_init 28 = .ok (.if_icmp .ge 22, 3) := by decide +kernel
theorem dX4_init_31 : decode cX4_init 31 = .ok (.aload_n 0, 1) := by decide +kernel
theorem dX4_init_32 : decode cX4_init 32 = .ok (.getfield 9, 3) := by decide +kernel
theorem dX4_init_35 : decode cX4_init 35 = .ok (.iload_n 2, 1) := by decide +kernel
theorem dX4_init_36 : decode cX4_init 36 = .ok (.new 7, 3) := by decide +kernel
theorem dX4_init_39 : decode cX4_init 39 = .ok (.dup, 1) := by decide +kernel
theorem dX4_init_40 : decode cX4_init 40 = .ok (.invokespecial 15, 3) := by decide +kernel
theorem dX4_init_43 : decode cX4_init 43 = .ok (.aastore, 1) := by decide +kernel
theorem dX4_init_44 : decode cX4_init 44 = .ok (.iinc 2 1, 3) := by decide +kernel
theorem dX4_init_47 : decode cX4_init 47 = .ok (.goto (-25), 3) := by decide +kernel
theorem dX4_init_50 : decode cX4_init 50 = .ok (.return_, 1) := by decide +kernel
theorem dX4_clear_0 : decode cX4_clear 0 = .ok (.aload_n 0, 1) := by decide +kernel
theorem dX4_clear_1 : decode cX4_clear 1 = .ok (.iconst 0, 1) := by decide +kernel
theorem dX4_clear_2 : decode cX4_clear 2 = .ok (.putfield 16, 3) := by decide +kernel
theorem dX4_clear_5 : decode cX4_clear 5 = .ok (.return_, 1) := by decide +kernel
set_option maxRecDepth 20000 in
theorem ggX4_put_X4_dropOldest : GoodIn wsX4_put wsX4_dropOldest := goodIn_r _ [7, 2, 1, 28, 29] (by decide +kernel) (by decide +kernel)
set_option maxRecDepth 20000 in
theorem gX4_put_X4_dropOldest : GoodIn wsX4_put (wsV RX4 20 RX4 yX4_dropOldest wsX4_dropOldest) := goodIn_app (goodIn_of _ (by decide +kernel)) ggX4_put_X4_dropOldest
set_option maxRecDepth 20000 in
theorem ggX4_put_X1_copy : GoodIn wsX4_put wsX1_copy := goodIn_r _ [12, 13, 14, 15, 16, 17, 18, 19, 20, 21, 22, 23, 24, 25, 26, 27, 30, 31, 32, 33, 34, 35] (by decide +kernel) (by decide +kernel)
set_option maxRecDepth 20000 in
theorem gX4_put_X1_copy : GoodIn wsX4_put (wsV RX4 23 RX1 yX1_copy wsX1_copy) := goodIn_app (goodIn_of _ (by decide +kernel)) ggX4_put_X1_copy
theorem dX4_put_0 : decode cX4_put 0 = .ok (.aload_n 0, 1) := by decide +kernel
theorem dX4_put_1 : decode cX4_put 1 = .ok (.getfield 16, 3) := by decide +kernel
theorem dX4_put_4 : decode cX4_put 4 = .ok (.aload_n 0, 1) := by decide +kernel
theorem dX4_put_5 : decode cX4_put 5 = .ok (.getfield 9, 3) := by decide +kernel
theorem dX4_put_8 : decode cX4_put 8 = .ok (.arraylength, 1) := by decide +kernel
theorem dX4_put_9 : decode cX4_put 9 = .ok (.if_icmp .lt 7, 3) := by decide +kernel
theorem dX4_put_12 : decode cX4_put 12 = .ok (.aload_n 0, 1) := by decide +kernel
theorem dX4_put_13 : decode cX4_put 13 = .ok (.invokevirtual 20, 3) := by decide +kernel
theorem dX4_put_16 : decode cX4_put 16 = .ok (.aload_n 0, 1) := by decide +kernel
theorem dX4_put_17 : decode cX4_put 17 = .ok (.getfield 16, 3) := by decide +kernel
theorem dX4_put_20 : decode cX4_put 20 = .ok (.ifCond .lt 50, 3) := by decide +kernel
theorem dX4_put_23 : decode cX4_put 23 = .ok (.aload_n 0, 1) := by decide +kernel
theorem dX4_put_24 : decode cX4_put 24 = .ok (.getfield 16, 3) := by decide +kernel
theorem dX4_put_27 : decode cX4_put 27 = .ok (.aload_n 0, 1) := by decide +kernel
theorem dX4_put_28 : decode cX4_put 28 = .ok (.getfield 9, 3) := by decide +kernel
theorem dX4_put_31 : decode cX4_put 31 = .ok (.arraylength, 1) := by decide +kernel
theorem dX4_put_32 : decode cX4_put 32 = .ok (.if_icmp .ge 38, 3) := by decide +kernel
theorem dX4_put_35 : decode cX4_put 35 = .ok (.aload_n 0, 1) := by decide +kernel
theorem dX4_put_36 : decode cX4_put 36 = .ok (.getfield 9, 3) := by decide +kernel
theorem dX4_put_39 : decode cX4_put 39 = .ok (.aload_n 0, 1) := by decide +kernel
theorem dX4_put_40 : decode cX4_put 40 = .ok (.getfield 16, 3) := by decide +kernel
theorem dX4_put_43 : decode cX4_put 43 = .ok (.aaload, 1) := by decide +kernel
theorem dX4_put_44 : decode cX4_put 44 = .ok (.ifnull 26, 3) := by decide +kernel
theorem dX4_put_47 : decode cX4_put 47 = .ok (.aload_n 0, 1) := by decide +kernel
theorem dX4_put_48 : decode cX4_put 48 = .ok (.getfield 9, 3) := by decide +kernel
theorem dX4_put_51 : decode cX4_put 51 = .ok (.aload_n 0, 1) := by decide +kernel
theorem dX4_put_52 : decode cX4_put 52 = .ok (.getfield 16, 3) := by decide +kernel
theorem dX4_put_55 : decode cX4_put 55 = .ok (.aaload, 1) := by decide +kernel
theorem dX4_put_56 : decode cX4_put 56 = .ok (.aload_n 1, 1) := by decide +kernel
theorem dX4_put_57 : decode cX4_put 57 = .ok (.invokevirtual 23, 3) := by decide +kernel
theorem dX4_put_60 : decode cX4_put 60 = .ok (.aload_n 0, 1) := by decide +kernel
theorem dX4_put_61 : decode cX4_put 61 = .ok (.dup, 1) := by decide +kernel
theorem dX4_put_62 : decode cX4_put 62 = .ok (.getfield 16, 3) := by decide +kernel
theorem dX4_put_65 : decode cX4_put 65 = .ok (.iconst 1, 1) := by decide +kernel
theorem dX4_put_66 : decode cX4_put 66 = .ok (.iadd, 1) := by decide +kernel
theorem dX4_put_67 : decode cX4_put 67 = .ok (.putfield 16, 3) := by decide +kernel
theorem dX4_put_70 : decode cX4_put 70 = .ok (.return_, 1) := by decide +kernel
set_option maxRecDepth 20000 in
theorem ggX4_takeLast_X1_copy : GoodIn wsX4_takeLast wsX1_copy := goodIn_r _ [7, 8, 9, 10, 11, 12, 13, 14, 15, 16, 17, 18, 19, 20, 21, 22, 25, 26, 27, 28, 29, 30] (by decide +kernel) (by decide +kernel)
set_option maxRecDepth 20000 in
theorem gX4_takeLast_X1_copy : GoodIn wsX4_takeLast (wsV RX4 23 RX1 yX1_copy wsX1_copy) := goodIn_app (goodIn_of _ (by decide +kernel)) ggX4_takeLast_X1_copy
theorem dX4_takeLast_0 : decode cX4_takeLast 0 = .ok (.aload_n 0, 1) := by decide +kernel
theorem dX4_takeLast_1 : decode cX4_takeLast 1 = .ok (.getfield 16, 3) := by decide +kernel
theorem dX4_takeLast_4 : decode cX4_takeLast 4 = .ok (.iconst 1, 1) := by decide +kernel
theorem dX4_takeLast_5 : decode cX4_takeLast 5 = .ok (.isub, 1) := by decide +kernel
theorem dX4_takeLast_6 : decode cX4_takeLast 6 = .ok (.istore_n 2, 1) := by decide +kernel
theorem dX4_takeLast_7 : decode cX4_takeLast 7 = .ok (.iload_n 2, 1) := by decide +kernel
theorem dX4_takeLast_8 : decode cX4_takeLast 8 = .ok (.ifCond .lt 21, 3) := by decide +kernel
theorem dX4_takeLast_11 : decode cX4_takeLast 11 = .ok (.iload_n 2, 1) := by decide +kernel
theorem dX4_takeLast_12 : decode cX4_takeLast 12 = .ok (.aload_n 0, 1) := by decide +kernel
theorem dX4_takeLast_13 : decode cX4_takeLast 13 = .ok (.getfield 9, 3) := by decide +kernel
theorem dX4_takeLast_16 : decode cX4_takeLast 16 = .ok (.arraylength, 1) := by decide +kernel
theorem dX4_takeLast_17 : decode cX4_takeLast 17 = .ok (.if_icmp .ge 12, 3) := by decide +kernel
theorem dX4_takeLast_20 : decode cX4_takeLast 20 = .ok (.aload_n 0, 1) := by decide +kernel
theorem dX4_takeLast_21 : decode cX4_takeLast 21 = .ok (.getfield 9, 3) := by decide +kernel
theorem dX4_takeLast_24 : decode cX4_takeLast 24 = .ok (.iload_n 2, 1) := by decide +kernel
theorem dX4_takeLast_25 : decode cX4_takeLast 25 = .ok (.aaload, 1) := by decide +kernel
theorem dX4_takeLast_26 : decode cX4_takeLast 26 = .ok (.ifnonnull 5, 3) := by decide +kernel
theorem dX4_takeLast_29 : decode cX4_takeLast 29 = .ok (.iconst 0, 1) := by decide +kernel
theorem dX4_takeLast_30 : decode cX4_takeLast 30 = .ok (.ireturn, 1) := by decide +kernel
theorem dX4_takeLast_31 : decode cX4_takeLast 31 = .ok (.aload_n 1, 1) := by decide +kernel
theorem dX4_takeLast_32 : decode cX4_takeLast 32 = .ok (.aload_n 0, 1) := by decide +kernel
theorem dX4_takeLast_33 : decode cX4_takeLast 33 = .ok (.getfield 9, 3) := by decide +kernel
theorem dX4_takeLast_36 : decode cX4_takeLast 36 = .ok (.iload_n 2, 1) := by decide +kernel
theorem dX4_takeLast_37 : decode cX4_takeLast 37 = .ok (.aaload, 1) := by decide +kernel
theorem dX4_takeLast_38 : decode cX4_takeLast 38 = .ok (.invokevirtual 23, 3) := by decide +kernel
theorem dX4_takeLast_41 : decode cX4_takeLast 41 = .ok (.aload_n 0, 1) := by decide +kernel
theorem dX4_takeLast_42 : decode cX4_takeLast 42 = .ok (.iload_n 2, 1) := by decide +kernel
theorem dX4_takeLast_43 : decode cX4_takeLast 43 = .ok (.putfield 16, 3) := by decide +kernel
theorem dX4_takeLast_46 : decode cX4_takeLast 46 = .ok (.iconst 1, 1) := by decide +kernel
theorem dX4_takeLast_47 : decode cX4_takeLast 47 = .ok (.ireturn, 1) := by decide +kernel
theorem dX4_dropOldest_0 : decode cX4_dropOldest 0 = .ok (.aload_n 0, 1) := by decide +kernel
theorem dX4_dropOldest_1 : decode cX4_dropOldest 1 = .ok (.getfield 9, 3) := by decide +kernel
theorem dX4_dropOldest_4 : decode cX4_dropOldest 4 = .ok (.arraylength, 1) := by decide +kernel
theorem dX4_dropOldest_5 : decode cX4_dropOldest 5 = .ok (.ifCond .ne 4, 3) := by decide +kernel
theorem dX4_dropOldest_8 : decode cX4_dropOldest 8 = .ok (.return_, 1) := by decide +kernel
theorem dX4_dropOldest_9 : decode cX4_dropOldest 9 = .ok (.aload_n 0, 1) := by decide +kernel
theorem dX4_dropOldest_10 : decode cX4_dropOldest 10 = .ok (.getfield 9, 3) := by decide +kernel
theorem dX4_dropOldest_13 : decode cX4_dropOldest 13 = .ok (.iconst 0, 1) := by decide +kernel
theorem dX4_dropOldest_14 : decode cX4_dropOldest 14 = .ok (.aaload, 1) := by decide +kernel
theorem dX4_dropOldest_15 : decode cX4_dropOldest 15 = .ok (.astore_n 1, 1) := by decide +kernel
theorem dX4_dropOldest_16 : decode cX4_dropOldest 16 = .ok (.iconst 1, 1) := by decide +kernel
theorem dX4_dropOldest_17 : decode cX4_dropOldest 17 = .ok (.istore_n 2, 1) := by decide +kernel
theorem dX4_dropOldest_18 : decode cX4_dropOldest 18 = .ok (.iload_n 2, 1) := by decide +kernel
theorem dX4_dropOldest_19 : decode cX4_dropOldest 19 = .ok (.aload_n 0, 1) := by decide +kernel
theorem dX4_dropOldest_20 : decode cX4_dropOldest 20 = .ok (.getfield 9, 3) := by decide +kernel
theorem dX4_dropOldest_23 : decode cX4_dropOldest 23 = .ok (.arraylength, 1) := by decide +kernel
theorem dX4_dropOldest_24 : decode cX4_dropOldest 24 = .ok (.if_icmp .ge 23, 3) := by decide +kernel
theorem dX4_dropOldest_27 : decode cX4_dropOldest 27 = .ok (.aload_n 0, 1) := by decide +kernel
theorem dX4_dropOldest_28 : decode cX4_dropOldest 28 = .ok (.getfield 9, 3) := by decide +kernel
theorem dX4_dropOldest_31 : decode cX4_dropOldest 31 = .ok (.iload_n 2, 1) := by decide +kernel
theorem dX4_dropOldest_32 : decode cX4_dropOldest 32 = .ok (.iconst 1, 1) := by decide +kernel
theorem dX4_dropOldest_33 : decode cX4_dropOldest 33 = .ok (.isub, 1) := by decide +kernel
theorem dX4_dropOldest_34 : decode cX4_dropOldest 34 = .ok (.aload_n 0, 1) := by decide +kernel
theorem dX4_dropOldest_35 : decode cX4_dropOldest 35 = .ok (.getfield 9, 3) := by decide +kernel
theorem dX4_dropOldest_38 : decode cX4_dropOldest 38 = .ok (.iload_n 2, 1) := by decide +kernel
theorem dX4_dropOldest_39 : decode cX4_dropOldest 39 = .ok (.aaload, 1) := by decide +kernel
theorem dX4_dropOldest_40 : decode cX4_dropOldest 40 = .ok (.aastore, 1) := by decide +kernel
theorem dX4_dropOldest_41 : decode cX4_dropOldest 41 = .ok (.iinc 2 1, 3) := by decide +kernel
theorem dX4_dropOldest_44 : decode cX4_dropOldest 44 = .ok (.goto (-26), 3) := by decide +kernel
theorem dX4_dropOldest_47 : decode cX4_dropOldest 47 = .ok (.aload_n 0, 1) := by decide +kernel
theorem dX4_dropOldest_48 : decode cX4_dropOldest 48 = .ok (.getfield 9, 3) := by decide +kernel
theorem dX4_dropOldest_51 : decode cX4_dropOldest 51 = .ok (.aload_n 0, 1) := by decide +kernel
theorem dX4_dropOldest_52 : decode cX4_dropOldest 52 = .ok (.getfield 9, 3) := by decide +kernel
theorem dX4_dropOldest_55 : decode cX4_dropOldest 55 = .ok (.arraylength, 1) := by decide +kernel
theorem dX4_dropOldest_56 : decode cX4_dropOldest 56 = .ok (.iconst 1, 1) := by decide +kernel
theorem dX4_dropOldest_57 : decode cX4_dropOldest 57 = .ok (.isub, 1) := by decide +kernel
theorem dX4_dropOldest_58 : decode cX4_dropOldest 58 = .ok (.aload_n 1, 1) := by decide +kernel
theorem dX4_dropOldest_59 : decode cX4_dropOldest 59 = .ok (.aastore, 1) := by decide +kernel
theorem dX4_dropOldest_60 : decode cX4_dropOldest 60 = .ok (.aload_n 0, 1) := by decide +kernel
theorem dX4_dropOldest_61 : decode cX4_dropOldest 61 = .ok (.dup, 1) := by decide +kernel
theorem dX4_dropOldest_62 : decode cX4_dropOldest 62 = .ok (.getfield 16, 3) := by decide +kernel
theorem dX4_dropOldest_65 : decode cX4_dropOldest 65 = .ok (.iconst 1, 1) := by decide +kernel
theorem dX4_dropOldest_66 : decode cX4_dropOldest 66 = .ok (.isub, 1) := by decide +kernel
theorem dX4_dropOldest_67 : decode cX4_dropOldest 67 = .ok (.putfield 16, 3) := by decide +kernel
theorem dX4_dropOldest_70 : decode cX4_dropOldest 70 = .ok (.return_, 1) := by decide +kernel
set_option maxRecDepth 20000 in
theorem ggX5_init_X3_init : GoodIn wsX5_init wsX3_init := goodIn_r _ [17, 18, 2, 3, 19, 20, 21] (by decide +kernel) (by decide +kernel)
set_option maxRecDepth 20000 in
theorem gX5_init_X3_init : GoodIn wsX5_init (wsX3_init) := ggX5_init_X3_init
theorem dX5_init_0 : decode cX5_init 0 = .ok (.aload_n 0, 1) := by decide +kernel
theorem dX5_init_1 : decode cX5_init 1 = .ok (.invokespecial 3, 3) := by decide +kernel
theorem dX5_init_4 : decode cX5_init 4 = .ok (.aload_n 0, 1) := by decide +kernel
theorem dX5_init_5 : decode cX5_init 5 = .ok (.new 9, 3) := by decide +kernel
theorem dX5_init_8 : decode cX5_init 8 = .ok (.dup, 1) := by decide +kernel
theorem dX5_init_9 : decode cX5_init 9 = .ok (.bipush 6, 2) := by decide +kernel
theorem dX5_init_11 : decode cX5_init 11 = .ok (.invokespecial 11, 3) := by decide +kernel
theorem dX5_init_14 : decode cX5_init 14 = .ok (.putfield 14, 3) := by decide +kernel
theorem dX5_init_17 : decode cX5_init 17 = .ok (.aload_n 0, 1) := by decide +kernel
theorem dX5_init_18 : decode cX5_init 18 = .ok (.new 9, 3) := by decide +kernel
theorem dX5_init_21 : decode cX5_init 21 = .ok (.dup, 1) := by decide +kernel
theorem dX5_init_22 : decode cX5_init 22 = .ok (.bipush 6, 2) := by decide +kernel
theorem dX5_init_24 : decode cX5_init 24 = .ok (.invokespecial 11, 3) := by decide +kernel
theorem dX5_init_27 : decode cX5_init 27 = .ok (.putfield 20, 3) := by decide +kernel
theorem dX5_init_30 : decode cX5_init 30 = .ok (.aload_n 0, 1) := by decide +kernel
theorem dX5_init_31 : decode cX5_init 31 = .ok (.new 9, 3) := by decide +kernel
theorem dX5_init_34 : decode cX5_init 34 = .ok (.dup, 1) := by decide +kernel
theorem dX5_init_35 : decode cX5_init 35 = .ok (.bipush 6, 2) := by decide +kernel
theorem dX5_init_37 : decode cX5_init 37 = .ok (.invokespecial 11, 3) := by decide +kernel
theorem dX5_init_40 : decode cX5_init 40 = .ok (.putfield 23, 3) := by decide +kernel
theorem dX5_init_43 : decode cX5_init 43 = .ok (.aload_n 0, 1) := by decide +kernel
theorem dX5_init_44 : decode cX5_init 44 = .ok (.new 9, 3) := by decide +kernel
theorem dX5_init_47 : decode cX5_init 47 = .ok (.dup, 1) := by decide +kernel
theorem dX5_init_48 : decode cX5_init 48 = .ok (.bipush 6, 2) := by decide +kernel
theorem dX5_init_50 : decode cX5_init 50 = .ok (.invokespecial 11, 3) := by decide +kernel
theorem dX5_init_53 : decode cX5_init 53 = .ok (.putfield 26, 3) := by decide +kernel
theorem dX5_init_56 : decode cX5_init 56 = .ok (.aload_n 0, 1) := by decide +kernel
theorem dX5_init_57 : decode cX5_init 57 = .ok (.iconst 1, 1) := by decide +kernel
theorem dX5_init_58 : decode cX5_init 58 = .ok (.putfield 29, 3) := by decide +kernel
theorem dX5_init_61 : decode cX5_init 61 = .ok (.aload_n 0, 1) := by decide +kernel
theorem dX5_init_62 : decode cX5_init 62 = .ok (.ldc 33, 2) := by decide +kernel
theorem dX5_init_64 : decode cX5_init 64 = .ok (.putfield 34, 3) := by decide +kernel
theorem dX5_init_67 : decode cX5_init 67 = .ok (.aload_n 0, 1) := by decide +kernel
theorem dX5_init_68 : decode cX5_init 68 = .ok (.ldc 33, 2) := by decide +kernel
theorem dX5_init_70 : decode cX5_init 70 = .ok (.putfield 37, 3) := by decide +kernel
theorem dX5_init_73 : decode cX5_init 73 = .ok (.return_, 1) := by decide +kernel
set_option maxRecDepth 20000 in
theorem ggX5_clear_X3_clear : GoodIn wsX5_clear wsX3_clear := goodIn_r _ [15, 16, 28] (by decide +kernel) (by decide +kernel)
set_option maxRecDepth 20000 in
theorem gX5_clear_X3_clear : GoodIn wsX5_clear (wsV RX5 40 RX3 yX3_clear wsX3_clear) := goodIn_app (goodIn_of _ (by decide +kernel)) ggX5_clear_X3_clear
theorem dX5_clear_0 : decode cX5_clear 0 = .ok (.aload_n 0, 1) := by decide +kernel
theorem dX5_clear_1 : decode cX5_clear 1 = .ok (.getfield 14, 3) := by decide +kernel
theorem dX5_clear_4 : decode cX5_clear 4 = .ok (.invokevirtual 40, 3) := by decide +kernel
theorem dX5_clear_7 : decode cX5_clear 7 = .ok (.aload_n 0, 1) := by decide +kernel
theorem dX5_clear_8 : decode cX5_clear 8 = .ok (.getfield 20, 3) := by decide +kernel
theorem dX5_clear_11 : decode cX5_clear 11 = .ok (.invokevirtual 40, 3) := by decide +kernel
theorem dX5_clear_14 : decode cX5_clear 14 = .ok (.aload_n 0, 1) := by decide +kernel
theorem dX5_clear_15 : decode cX5_clear 15 = .ok (.iconst 0, 1) := by decide +kernel
theorem dX5_clear_16 : decode cX5_clear 16 = .ok (.putfield 43, 3) := by decide +kernel
theorem dX5_clear_19 : decode cX5_clear 19 = .ok (.aload_n 0, 1) := by decide +kernel
theorem dX5_clear_20 : decode cX5_clear 20 = .ok (.iconst 0, 1) := by decide +kernel
theorem dX5_clear_21 : decode cX5_clear 21 = .ok (.putfield 46, 3) := by decide +kernel
theorem dX5_clear_24 : decode cX5_clear 24 = .ok (.aload_n 0, 1) := by decide +kernel
theorem dX5_clear_25 : decode cX5_clear 25 = .ok (.iconst 0, 1) := by decide +kernel
theorem dX5_clear_26 : decode cX5_clear 26 = .ok (.putfield 49, 3) := by decide +kernel
theorem dX5_clear_29 : decode cX5_clear 29 = .ok (.aload_n 0, 1) := by decide +kernel
theorem dX5_clear_30 : decode cX5_clear 30 = .ok (.iconst 1, 1) := by decide +kernel
theorem dX5_clear_31 : decode cX5_clear 31 = .ok (.putfield 29, 3) := by decide +kernel
theorem dX5_clear_34 : decode cX5_clear 34 = .ok (.aload_n 0, 1) := by decide +kernel
theorem dX5_clear_35 : decode cX5_clear 35 = .ok (.iconst 0, 1) := by decide +kernel
theorem dX5_clear_36 : decode cX5_clear 36 = .ok (.putfield 52, 3) := by decide +kernel
theorem dX5_clear_39 : decode cX5_clear 39 = .ok (.aload_n 0, 1) := by decide +kernel
theorem dX5_clear_40 : decode cX5_clear 40 = .ok (.ldc 33, 2) := by decide +kernel
theorem dX5_clear_42 : decode cX5_clear 42 = .ok (.putfield 34, 3) := by decide +kernel
theorem dX5_clear_45 : decode cX5_clear 45 = .ok (.aload_n 0, 1) := by decide +kernel
theorem dX5_clear_46 : decode cX5_clear 46 = .ok (.ldc 33, 2) := by decide +kernel
theorem dX5_clear_48 : decode cX5_clear 48 = .ok (.putfield 37, 3) := by decide +kernel
theorem dX5_clear_51 : decode cX5_clear 51 = .ok (.return_, 1) := by decide +kernel
set_option maxRecDepth 20000 in
theorem ggX5_addMan_X3_set : GoodIn wsX5_addMan wsX3_set := goodIn_r _ [7, 8, 20] (by decide +kernel) (by decide +kernel)
set_option maxRecDepth 20000 in
theorem gX5_addMan_X3_set : GoodIn wsX5_addMan (wsV RX5 55 RX3 yX3_set wsX3_set) := goodIn_app (goodIn_of _ (by decide +kernel)) ggX5_addMan_X3_set
theorem dX5_addMan_0 : decode cX5_addMan 0 = .ok (.aload_n 0, 1) := by decide +kernel
theorem dX5_addMan_1 : decode cX5_addMan 1 = .ok (.getfield 43, 3) := by decide +kernel
theorem dX5_addMan_4 : decode cX5_addMan 4 = .ok (.bipush 6, 2) := by decide +kernel
theorem dX5_addMan_6 : decode cX5_addMan 6 = .ok (.if_icmp .ge 12, 3) := by decide +kernel
theorem dX5_addMan_9 : decode cX5_addMan 9 = .ok (.iload_n 1, 1) := by decide +kernel
theorem dX5_addMan_10 : decode cX5_addMan 10 = .ok (.ifCond .lt 8, 3) := by decide +kernel
theorem dX5_addMan_13 : decode cX5_addMan 13 = .ok (.iload_n 1, 1) := by decide +kernel
theorem dX5_addMan_14 : decode cX5_addMan 14 = .ok (.iconst 2, 1) := by decide +kernel
theorem dX5_addMan_15 : decode cX5_addMan 15 = .ok (.if_icmp .le 5, 3) := by decide +kernel
theorem dX5_addMan_18 : decode cX5_addMan 18 = .ok (.iconst 0, 1) := by decide +kernel
theorem dX5_addMan_19 : decode cX5_addMan 19 = .ok (.ireturn, 1) := by decide +kernel
theorem dX5_addMan_20 : decode cX5_addMan 20 = .ok (.aload_n 0, 1) := by decide +kernel
theorem dX5_addMan_21 : decode cX5_addMan 21 = .ok (.getfield 14, 3) := by decide +kernel
theorem dX5_addMan_24 : decode cX5_addMan 24 = .ok (.aload_n 0, 1) := by decide +kernel
theorem dX5_addMan_25 : decode cX5_addMan 25 = .ok (.getfield 43, 3) := by decide +kernel
theorem dX5_addMan_28 : decode cX5_addMan 28 = .ok (.iload_n 1, 1) := by decide +kernel
theorem dX5_addMan_29 : decode cX5_addMan 29 = .ok (.invokevirtual 55, 3) := by decide +kernel
theorem dX5_addMan_32 : decode cX5_addMan 32 = .ok (.aload_n 0, 1) := by decide +kernel
theorem dX5_addMan_33 : decode cX5_addMan 33 = .ok (.dup, 1) := by decide +kernel
theorem dX5_addMan_34 : decode cX5_addMan 34 = .ok (.getfield 43, 3) := by decide +kernel
theorem dX5_addMan_37 : decode cX5_addMan 37 = .ok (.iconst 1, 1) := by decide +kernel
theorem dX5_addMan_38 : decode cX5_addMan 38 = .ok (.iadd, 1) := by decide +kernel
theorem dX5_addMan_39 : decode cX5_addMan 39 = .ok (.putfield 43, 3) := by decide +kernel
theorem dX5_addMan_42 : decode cX5_addMan 42 = .ok (.iconst 1, 1) := by decide +kernel
theorem dX5_addMan_43 : decode cX5_addMan 43 = .ok (.ireturn, 1) := by decide +kernel
set_option maxRecDepth 20000 in
theorem ggX5_tellOil_X3_set : GoodIn wsX5_tellOil wsX3_set := goodIn_r _ [9, 10, 22] (by decide +kernel) (by decide +kernel)
set_option maxRecDepth 20000 in
theorem gX5_tellOil_X3_set : GoodIn wsX5_tellOil (wsV RX5 55 RX3 yX3_set wsX3_set) := goodIn_app (goodIn_of _ (by decide +kernel)) ggX5_tellOil_X3_set
theorem dX5_tellOil_0 : decode cX5_tellOil 0 = .ok (.iload_n 1, 1) := by decide +kernel
theorem dX5_tellOil_1 : decode cX5_tellOil 1 = .ok (.ifCond .lt 35, 3) := by decide +kernel
theorem dX5_tellOil_4 : decode cX5_tellOil 4 = .ok (.iload_n 1, 1) := by decide +kernel
theorem dX5_tellOil_5 : decode cX5_tellOil 5 = .ok (.aload_n 0, 1) := by decide +kernel
theorem dX5_tellOil_6 : decode cX5_tellOil 6 = .ok (.getfield 43, 3) := by decide +kernel
theorem dX5_tellOil_9 : decode cX5_tellOil 9 = .ok (.if_icmp .ge 27, 3) := by decide +kernel
theorem dX5_tellOil_12 : decode cX5_tellOil 12 = .ok (.iload_n 2, 1) := by decide +kernel
theorem dX5_tellOil_13 : decode cX5_tellOil 13 = .ok (.ifCond .lt 23, 3) := by decide +kernel
theorem dX5_tellOil_16 : decode cX5_tellOil 16 = .ok (.iload_n 2, 1) := by decide +kernel
theorem dX5_tellOil_17 : decode cX5_tellOil 17 = .ok (.bipush 40, 2) := by decide +kernel
theorem dX5_tellOil_19 : decode cX5_tellOil 19 = .ok (.if_icmp .gt 17, 3) := by decide +kernel
theorem dX5_tellOil_22 : decode cX5_tellOil 22 = .ok (.iload_n 3, 1) := by decide +kernel
theorem dX5_tellOil_23 : decode cX5_tellOil 23 = .ok (.ifCond .lt 13, 3) := by decide +kernel
theorem dX5_tellOil_26 : decode cX5_tellOil 26 = .ok (.iload_n 3, 1) := by decide +kernel
theorem dX5_tellOil_27 : decode cX5_tellOil 27 = .ok (.iconst 1, 1) := by decide +kernel
theorem dX5_tellOil_28 : decode cX5_tellOil 28 = .ok (.if_icmp .gt 8, 3) := by decide +kernel
theorem dX5_tellOil_31 : decode cX5_tellOil 31 = .ok (.iload_n 3, 1) := by decide +kernel
theorem dX5_tellOil_32 : decode cX5_tellOil 32 = .ok (.iload_n 2, 1) := by decide +kernel
theorem dX5_tellOil_33 : decode cX5_tellOil 33 = .ok (.if_icmp .le 5, 3) := by decide +kernel
theorem dX5_tellOil_36 : decode cX5_tellOil 36 = .ok (.iconst 0, 1) := by decide +kernel
theorem dX5_tellOil_37 : decode cX5_tellOil 37 = .ok (.ireturn, 1) := by decide +kernel
theorem dX5_tellOil_38 : decode cX5_tellOil 38 = .ok (.iconst 1, 1) := by decide +kernel
theorem dX5_tellOil_39 : decode cX5_tellOil 39 = .ok (.iload_n 1, 1) := by decide +kernel
theorem dX5_tellOil_40 : decode cX5_tellOil 40 = .ok (.ishl, 1) := by decide +kernel
theorem dX5_tellOil_41 : decode cX5_tellOil 41 = .ok (.istore 4, 2) := by decide +kernel
theorem dX5_tellOil_43 : decode cX5_tellOil 43 = .ok (.aload_n 0, 1) := by decide +kernel
theorem dX5_tellOil_44 : decode cX5_tellOil 44 = .ok (.getfield 20, 3) := by decide +kernel
theorem dX5_tellOil_47 : decode cX5_tellOil 47 = .ok (.iload_n 1, 1) := by decide +kernel
theorem dX5_tellOil_48 : decode cX5_tellOil 48 = .ok (.iload_n 2, 1) := by decide +kernel
theorem dX5_tellOil_49 : decode cX5_tellOil 49 = .ok (.invokevirtual 55, 3) := by decide +kernel
theorem dX5_tellOil_52 : decode cX5_tellOil 52 = .ok (.aload_n 0, 1) := by decide +kernel
theorem dX5_tellOil_53 : decode cX5_tellOil 53 = .ok (.iload_n 3, 1) := by decide +kernel
theorem dX5_tellOil_54 : decode cX5_tellOil 54 = .ok (.iconst 1, 1) := by decide +kernel
theorem dX5_tellOil_55 : decode cX5_tellOil 55 = .ok (.if_icmp .ne 13, 3) := by decide +kernel
theorem dX5_tellOil_58 : decode cX5_tellOil 58 = .ok (.aload_n 0, 1) := by decide +kernel
theorem dX5_tellOil_59 : decode cX5_tellOil 59 = .ok (.getfield 46, 3) := by decide +kernel
theorem dX5_tellOil_62 : decode cX5_tellOil 62 = .ok (.iload 4, 2) := by decide +kernel
theorem dX5_tellOil_64 : decode cX5_tellOil 64 = .ok (.ior, 1) := by decide +kernel
theorem dX5_tellOil_65 : decode cX5_tellOil 65 = .ok (.goto 12, 3) := by decide +kernel
theorem dX5_tellOil_68 : decode cX5_tellOil 68 = .ok (.aload_n 0, 1) := by decide +kernel
theorem dX5_tellOil_69 : decode cX5_tellOil 69 = .ok (.getfield 46, 3) := by decide +kernel
theorem dX5_tellOil_72 : decode cX5_tellOil 72 = .ok (.iload 4, 2) := by decide +kernel
theorem dX5_tellOil_74 : decode cX5_tellOil 74 = .ok (.iconst (-1), 1) := by decide +kernel
theorem dX5_tellOil_75 : decode cX5_tellOil 75 = .ok (.ixor, 1) := by decide +kernel
theorem dX5_tellOil_76 : decode cX5_tellOil 76 = .ok (.iand, 1) := by decide +kernel
theorem dX5_tellOil_77 : decode cX5_tellOil 77 = .ok (.putfield 46, 3) := by decide +kernel
theorem dX5_tellOil_80 : decode cX5_tellOil 80 = .ok (.aload_n 0, 1) := by decide +kernel
theorem dX5_tellOil_81 : decode cX5_tellOil 81 = .ok (.dup, 1) := by decide +kernel
theorem dX5_tellOil_82 : decode cX5_tellOil 82 = .ok (.getfield 49, 3) := by decide +kernel
theorem dX5_tellOil_85 : decode cX5_tellOil 85 = .ok (.iload 4, 2) := by decide +kernel
theorem dX5_tellOil_87 : decode cX5_tellOil 87 = .ok (.iconst (-1), 1) := by decide +kernel
theorem dX5_tellOil_88 : decode cX5_tellOil 88 = .ok (.ixor, 1) := by decide +kernel
theorem dX5_tellOil_89 : decode cX5_tellOil 89 = .ok (.iand, 1) := by decide +kernel
theorem dX5_tellOil_90 : decode cX5_tellOil 90 = .ok (.putfield 49, 3) := by decide +kernel
theorem dX5_tellOil_93 : decode cX5_tellOil 93 = .ok (.iconst 1, 1) := by decide +kernel
theorem dX5_tellOil_94 : decode cX5_tellOil 94 = .ok (.ireturn, 1) := by decide +kernel
set_option maxRecDepth 20000 in
theorem ggX5_tellCheese_X5_tellOil : GoodIn wsX5_tellCheese wsX5_tellOil := goodIn_r _ [6, 7, 8, 9, 1, 10, 11, 12, 13, 14, 15, 16, 17, 18, 19, 20, 21, 22, 23, 24, 25, 26, 27] (by decide +kernel) (by decide +kernel)
set_option maxRecDepth 20000 in
theorem gX5_tellCheese_X5_tellOil : GoodIn wsX5_tellCheese (wsV RX5 59 RX5 yX5_tellOil wsX5_tellOil) := goodIn_app (goodIn_of _ (by decide +kernel)) ggX5_tellCheese_X5_tellOil
theorem dX5_tellCheese_0 : decode cX5_tellCheese 0 = .ok (.aload_n 0, 1) := by decide +kernel
theorem dX5_tellCheese_1 : decode cX5_tellCheese 1 = .ok (.iload_n 1, 1) := by decide +kernel
theorem dX5_tellCheese_2 : decode cX5_tellCheese 2 = .ok (.iconst 0, 1) := by decide +kernel
theorem dX5_tellCheese_3 : decode cX5_tellCheese 3 = .ok (.iconst 0, 1) := by decide +kernel
theorem dX5_tellCheese_4 : decode cX5_tellCheese 4 = .ok (.invokevirtual 59, 3) := by decide +kernel
theorem dX5_tellCheese_7 : decode cX5_tellCheese 7 = .ok (.ifCond .ne 5, 3) := by decide +kernel
theorem dX5_tellCheese_10 : decode cX5_tellCheese 10 = .ok (.iconst 0, 1) := by decide +kernel
theorem dX5_tellCheese_11 : decode cX5_tellCheese 11 = .ok (.ireturn, 1) := by decide +kernel
theorem dX5_tellCheese_12 : decode cX5_tellCheese 12 = .ok (.aload_n 0, 1) := by decide +kernel
theorem dX5_tellCheese_13 : decode cX5_tellCheese 13 = .ok (.dup, 1) := by decide +kernel
theorem dX5_tellCheese_14 : decode cX5_tellCheese 14 = .ok (.getfield 49, 3) := by decide +kernel
theorem dX5_tellCheese_17 : decode cX5_tellCheese 17 = .ok (.iconst 1, 1) := by decide +kernel
theorem dX5_tellCheese_18 : decode cX5_tellCheese 18 = .ok (.iload_n 1, 1) := by decide +kernel
theorem dX5_tellCheese_19 : decode cX5_tellCheese 19 = .ok (.ishl, 1) := by decide +kernel
theorem dX5_tellCheese_20 : decode cX5_tellCheese 20 = .ok (.ior, 1) := by decide +kernel
theorem dX5_tellCheese_21 : decode cX5_tellCheese 21 = .ok (.putfield 49, 3) := by decide +kernel
theorem dX5_tellCheese_24 : decode cX5_tellCheese 24 = .ok (.iconst 1, 1) := by decide +kernel
theorem dX5_tellCheese_25 : decode cX5_tellCheese 25 = .ok (.ireturn, 1) := by decide +kernel
theorem dX5_tellStep_0 : decode cX5_tellStep 0 = .ok (.iload_n 1, 1) := by decide +kernel
theorem dX5_tellStep_1 : decode cX5_tellStep 1 = .ok (.ifCond .lt 8, 3) := by decide +kernel
theorem dX5_tellStep_4 : decode cX5_tellStep 4 = .ok (.iload_n 1, 1) := by decide +kernel
theorem dX5_tellStep_5 : decode cX5_tellStep 5 = .ok (.iconst 5, 1) := by decide +kernel
theorem dX5_tellStep_6 : decode cX5_tellStep 6 = .ok (.if_icmp .le 5, 3) := by decide +kernel
theorem dX5_tellStep_9 : decode cX5_tellStep 9 = .ok (.iconst 0, 1) := by decide +kernel
theorem dX5_tellStep_10 : decode cX5_tellStep 10 = .ok (.ireturn, 1) := by decide +kernel
theorem dX5_tellStep_11 : decode cX5_tellStep 11 = .ok (.aload_n 0, 1) := by decide +kernel
theorem dX5_tellStep_12 : decode cX5_tellStep 12 = .ok (.iload_n 1, 1) := by decide +kernel
theorem dX5_tellStep_13 : decode cX5_tellStep 13 = .ok (.putfield 29, 3) := by decide +kernel
theorem dX5_tellStep_16 : decode cX5_tellStep 16 = .ok (.iconst 1, 1) := by decide +kernel
theorem dX5_tellStep_17 : decode cX5_tellStep 17 = .ok (.ireturn, 1) := by decide +kernel
set_option maxRecDepth 20000 in
theorem ggX5_addDraught_X3_set : GoodIn wsX5_addDraught wsX3_set := goodIn_r _ [8, 9, 21] (by decide +kernel) (by decide +kernel)
set_option maxRecDepth 20000 in
theorem gX5_addDraught_X3_set : GoodIn wsX5_addDraught (wsV RX5 55 RX3 yX3_set wsX3_set) := goodIn_app (goodIn_of _ (by decide +kernel)) ggX5_addDraught_X3_set
theorem dX5_addDraught_0 : decode cX5_addDraught 0 = .ok (.aload_n 0, 1) := by decide +kernel
theorem dX5_addDraught_1 : decode cX5_addDraught 1 = .ok (.getfield 52, 3) := by decide +kernel
theorem dX5_addDraught_4 : decode cX5_addDraught 4 = .ok (.bipush 6, 2) := by decide +kernel
theorem dX5_addDraught_6 : decode cX5_addDraught 6 = .ok (.if_icmp .ge 24, 3) := by decide +kernel
theorem dX5_addDraught_9 : decode cX5_addDraught 9 = .ok (.iload_n 1, 1) := by decide +kernel
theorem dX5_addDraught_10 : decode cX5_addDraught 10 = .ok (.iconst 1, 1) := by decide +kernel
theorem dX5_addDraught_11 : decode cX5_addDraught 11 = .ok (.if_icmp .lt 19, 3) := by decide +kernel
theorem dX5_addDraught_14 : decode cX5_addDraught 14 = .ok (.iload_n 1, 1) := by decide +kernel
theorem dX5_addDraught_15 : decode cX5_addDraught 15 = .ok (.bipush 60, 2) := by decide +kernel
theorem dX5_addDraught_17 : decode cX5_addDraught 17 = .ok (.if_icmp .gt 13, 3) := by decide +kernel
theorem dX5_addDraught_20 : decode cX5_addDraught 20 = .ok (.iload_n 2, 1) := by decide +kernel
theorem dX5_addDraught_21 : decode cX5_addDraught 21 = .ok (.ifCond .lt 9, 3) := by decide +kernel
theorem dX5_addDraught_24 : decode cX5_addDraught 24 = .ok (.iload_n 2, 1) := by decide +kernel
theorem dX5_addDraught_25 : decode cX5_addDraught 25 = .ok (.bipush 6, 2) := by decide +kernel
theorem dX5_addDraught_27 : decode cX5_addDraught 27 = .ok (.if_icmp .lt 5, 3) := by decide +kernel
theorem dX5_addDraught_30 : decode cX5_addDraught 30 = .ok (.iconst 0, 1) := by decide +kernel
theorem dX5_addDraught_31 : decode cX5_addDraught 31 = .ok (.ireturn, 1) := by decide +kernel
theorem dX5_addDraught_32 : decode cX5_addDraught 32 = .ok (.aload_n 0, 1) := by decide +kernel
theorem dX5_addDraught_33 : decode cX5_addDraught 33 = .ok (.getfield 23, 3) := by decide +kernel
theorem dX5_addDraught_36 : decode cX5_addDraught 36 = .ok (.aload_n 0, 1) := by decide +kernel
theorem dX5_addDraught_37 : decode cX5_addDraught 37 = .ok (.getfield 52, 3) := by decide +kernel
theorem dX5_addDraught_40 : decode cX5_addDraught 40 = .ok (.iload_n 1, 1) := by decide +kernel
theorem dX5_addDraught_41 : decode cX5_addDraught 41 = .ok (.invokevirtual 55, 3) := by decide +kernel
theorem dX5_addDraught_44 : decode cX5_addDraught 44 = .ok (.aload_n 0, 1) := by decide +kernel
theorem dX5_addDraught_45 : decode cX5_addDraught 45 = .ok (.getfield 26, 3) := by decide +kernel
theorem dX5_addDraught_48 : decode cX5_addDraught 48 = .ok (.aload_n 0, 1) := by decide +kernel
theorem dX5_addDraught_49 : decode cX5_addDraught 49 = .ok (.getfield 52, 3) := by decide +kernel
theorem dX5_addDraught_52 : decode cX5_addDraught 52 = .ok (.iload_n 2, 1) := by decide +kernel
theorem dX5_addDraught_53 : decode cX5_addDraught 53 = .ok (.invokevirtual 55, 3) := by decide +kernel
theorem dX5_addDraught_56 : decode cX5_addDraught 56 = .ok (.aload_n 0, 1) := by decide +kernel
theorem dX5_addDraught_57 : decode cX5_addDraught 57 = .ok (.dup, 1) := by decide +kernel
theorem dX5_addDraught_58 : decode cX5_addDraught 58 = .ok (.getfield 52, 3) := by decide +kernel
theorem dX5_addDraught_61 : decode cX5_addDraught 61 = .ok (.iconst 1, 1) := by decide +kernel
theorem dX5_addDraught_62 : decode cX5_addDraught 62 = .ok (.iadd, 1) := by decide +kernel
theorem dX5_addDraught_63 : decode cX5_addDraught 63 = .ok (.putfield 52, 3) := by decide +kernel
theorem dX5_addDraught_66 : decode cX5_addDraught 66 = .ok (.iconst 1, 1) := by decide +kernel
theorem dX5_addDraught_67 : decode cX5_addDraught 67 = .ok (.ireturn, 1) := by decide +kernel
theorem dX5_tellSun_0 : decode cX5_tellSun 0 = .ok (.iload_n 1, 1) := by decide +kernel
theorem dX5_tellSun_1 : decode cX5_tellSun 1 = .ok (.ifCond .lt 14, 3) := by decide +kernel
theorem dX5_tellSun_4 : decode cX5_tellSun 4 = .ok (.iload_n 1, 1) := by decide +kernel
theorem dX5_tellSun_5 : decode cX5_tellSun 5 = .ok (.iload_n 2, 1) := by decide +kernel
theorem dX5_tellSun_6 : decode cX5_tellSun 6 = .ok (.if_icmp .gt 9, 3) := by decide +kernel
theorem dX5_tellSun_9 : decode cX5_tellSun 9 = .ok (.iload_n 2, 1) := by decide +kernel
theorem dX5_tellSun_10 : decode cX5_tellSun 10 = .ok (.bipush 60, 2) := by decide +kernel
theorem dX5_tellSun_12 : decode cX5_tellSun 12 = .ok (.if_icmp .le 5, 3) := by decide +kernel
theorem dX5_tellSun_15 : decode cX5_tellSun 15 = .ok (.iconst 0, 1) := by decide +kernel
theorem dX5_tellSun_16 : decode cX5_tellSun 16 = .ok (.ireturn, 1) := by decide +kernel
theorem dX5_tellSun_17 : decode cX5_tellSun 17 = .ok (.aload_n 0, 1) := by decide +kernel
theorem dX5_tellSun_18 : decode cX5_tellSun 18 = .ok (.iload_n 1, 1) := by decide +kernel
theorem dX5_tellSun_19 : decode cX5_tellSun 19 = .ok (.putfield 34, 3) := by decide +kernel
theorem dX5_tellSun_22 : decode cX5_tellSun 22 = .ok (.aload_n 0, 1) := by decide +kernel
theorem dX5_tellSun_23 : decode cX5_tellSun 23 = .ok (.iload_n 2, 1) := by decide +kernel
theorem dX5_tellSun_24 : decode cX5_tellSun 24 = .ok (.putfield 37, 3) := by decide +kernel
theorem dX5_tellSun_27 : decode cX5_tellSun 27 = .ok (.iconst 1, 1) := by decide +kernel
theorem dX5_tellSun_28 : decode cX5_tellSun 28 = .ok (.ireturn, 1) := by decide +kernel
set_option maxRecDepth 20000 in
theorem ggX5_canBeLaid_X3_get : GoodIn wsX5_canBeLaid wsX3_get := goodIn_r _ [8, 9, 21] (by decide +kernel) (by decide +kernel)
set_option maxRecDepth 20000 in
theorem gX5_canBeLaid_X3_get : GoodIn wsX5_canBeLaid (wsV RX5 63 RX3 yX3_get wsX3_get) := goodIn_app (goodIn_of _ (by decide +kernel)) ggX5_canBeLaid_X3_get
theorem dX5_canBeLaid_0 : decode cX5_canBeLaid 0 = .ok (.iconst 0, 1) := by decide +kernel
theorem dX5_canBeLaid_1 : decode cX5_canBeLaid 1 = .ok (.istore_n 1, 1) := by decide +kernel
theorem dX5_canBeLaid_2 : decode cX5_canBeLaid 2 = .ok (.iload_n 1, 1) := by decide +kernel
theorem dX5_canBeLaid_3 : decode cX5_canBeLaid 3 = .ok (.aload_n 0, 1) := by decide +kernel
theorem dX5_canBeLaid_4 : decode cX5_canBeLaid 4 = .ok (.getfield 52, 3) := by decide +kernel
theorem dX5_canBeLaid_7 : decode cX5_canBeLaid 7 = .ok (.if_icmp .ge 26, 3) := by decide +kernel
theorem dX5_canBeLaid_10 : decode cX5_canBeLaid 10 = .ok (.aload_n 0, 1) := by decide +kernel
theorem dX5_canBeLaid_11 : decode cX5_canBeLaid 11 = .ok (.getfield 26, 3) := by decide +kernel
theorem dX5_canBeLaid_14 : decode cX5_canBeLaid 14 = .ok (.iload_n 1, 1) := by decide +kernel
theorem dX5_canBeLaid_15 : decode cX5_canBeLaid 15 = .ok (.invokevirtual 63, 3) := by decide +kernel
theorem dX5_canBeLaid_18 : decode cX5_canBeLaid 18 = .ok (.aload_n 0, 1) := by decide +kernel
theorem dX5_canBeLaid_19 : decode cX5_canBeLaid 19 = .ok (.getfield 43, 3) := by decide +kernel
theorem dX5_canBeLaid_22 : decode cX5_canBeLaid 22 = .ok (.if_icmp .lt 5, 3) := by decide +kernel
theorem dX5_canBeLaid_25 : decode cX5_canBeLaid 25 = .ok (.iconst 0, 1) := by decide +kernel
theorem dX5_canBeLaid_26 : decode cX5_canBeLaid 26 = .ok (.ireturn, 1) := by decide +kernel
theorem dX5_canBeLaid_27 : decode cX5_canBeLaid 27 = .ok (.iinc 1 1, 3) := by decide +kernel
theorem dX5_canBeLaid_30 : decode cX5_canBeLaid 30 = .ok (.goto (-28), 3) := by decide +kernel
theorem dX5_canBeLaid_33 : decode cX5_canBeLaid 33 = .ok (.aload_n 0, 1) := by decide +kernel
theorem dX5_canBeLaid_34 : decode cX5_canBeLaid 34 = .ok (.getfield 43, 3) := by decide +kernel
theorem dX5_canBeLaid_37 : decode cX5_canBeLaid 37 = .ok (.iconst 2, 1) := by decide +kernel
theorem dX5_canBeLaid_38 : decode cX5_canBeLaid 38 = .ok (.if_icmp .lt 7, 3) := by decide +kernel
theorem dX5_canBeLaid_41 : decode cX5_canBeLaid 41 = .ok (.iconst 1, 1) := by decide +kernel
theorem dX5_canBeLaid_42 : decode cX5_canBeLaid 42 = .ok (.goto 4, 3) := by decide +kernel
theorem dX5_canBeLaid_45 : decode cX5_canBeLaid 45 = .ok (.iconst 0, 1) := by decide +kernel
theorem dX5_canBeLaid_46 : decode cX5_canBeLaid 46 = .ok (.ireturn, 1) := by decide +kernel
theorem dX5_isCheese_0 : decode cX5_isCheese 0 = .ok (.aload_n 0, 1) := by decide +kernel
theorem dX5_isCheese_1 : decode cX5_isCheese 1 = .ok (.getfield 49, 3) := by decide +kernel
theorem dX5_isCheese_4 : decode cX5_isCheese 4 = .ok (.iload_n 1, 1) := by decide +kernel
theorem dX5_isCheese_5 : decode cX5_isCheese 5 = .ok (.ishr, 1) := by decide +kernel
theorem dX5_isCheese_6 : decode cX5_isCheese 6 = .ok (.iconst 1, 1) := by decide +kernel
theorem dX5_isCheese_7 : decode cX5_isCheese 7 = .ok (.iand, 1) := by decide +kernel
theorem dX5_isCheese_8 : decode cX5_isCheese 8 = .ok (.iconst 1, 1) := by decide +kernel
theorem dX5_isCheese_9 : decode cX5_isCheese 9 = .ok (.if_icmp .ne 7, 3) := by decide +kernel
theorem dX5_isCheese_12 : decode cX5_isCheese 12 = .ok (.iconst 1, 1) := by decide +kernel
theorem dX5_isCheese_13 : decode cX5_isCheese 13 = .ok (.goto 4, 3) := by decide +kernel
theorem dX5_isCheese_16 : decode cX5_isCheese 16 = .ok (.iconst 0, 1) := by decide +kernel
theorem dX5_isCheese_17 : decode cX5_isCheese 17 = .ok (.ireturn, 1) := by decide +kernel
set_option maxRecDepth 20000 in
theorem ggX5_withOil_X3_get : GoodIn wsX5_withOil wsX3_get := goodIn_r _ [7, 8, 20] (by decide +kernel) (by decide +kernel)
set_option maxRecDepth 20000 in
theorem gX5_withOil_X3_get : GoodIn wsX5_withOil (wsV RX5 63 RX3 yX3_get wsX3_get) := goodIn_app (goodIn_of _ (by decide +kernel)) ggX5_withOil_X3_get
theorem dX5_withOil_0 : decode cX5_withOil 0 = .ok (.iconst 0, 1) := by decide +kernel
theorem dX5_withOil_1 : decode cX5_withOil 1 = .ok (.istore_n 1, 1) := by decide +kernel
theorem dX5_withOil_2 : decode cX5_withOil 2 = .ok (.iconst 0, 1) := by decide +kernel
theorem dX5_withOil_3 : decode cX5_withOil 3 = .ok (.istore_n 2, 1) := by decide +kernel
theorem dX5_withOil_4 : decode cX5_withOil 4 = .ok (.iload_n 2, 1) := by decide +kernel
theorem dX5_withOil_5 : decode cX5_withOil 5 = .ok (.aload_n 0, 1) := by decide +kernel
theorem dX5_withOil_6 : decode cX5_withOil 6 = .ok (.getfield 43, 3) := by decide +kernel
theorem dX5_withOil_9 : decode cX5_withOil 9 = .ok (.if_icmp .ge 26, 3) := by decide +kernel
theorem dX5_withOil_12 : decode cX5_withOil 12 = .ok (.aload_n 0, 1) := by decide +kernel
theorem dX5_withOil_13 : decode cX5_withOil 13 = .ok (.getfield 20, 3) := by decide +kernel
theorem dX5_withOil_16 : decode cX5_withOil 16 = .ok (.iload_n 2, 1) := by decide +kernel
theorem dX5_withOil_17 : decode cX5_withOil 17 = .ok (.invokevirtual 63, 3) := by decide +kernel
theorem dX5_withOil_20 : decode cX5_withOil 20 = .ok (.ifCond .le 9, 3) := by decide +kernel
theorem dX5_withOil_23 : decode cX5_withOil 23 = .ok (.iload_n 1, 1) := by decide +kernel
theorem dX5_withOil_24 : decode cX5_withOil 24 = .ok (.iconst 1, 1) := by decide +kernel
theorem dX5_withOil_25 : decode cX5_withOil 25 = .ok (.iload_n 2, 1) := by decide +kernel
theorem dX5_withOil_26 : decode cX5_withOil 26 = .ok (.ishl, 1) := by decide +kernel
theorem dX5_withOil_27 : decode cX5_withOil 27 = .ok (.ior, 1) := by decide +kernel
theorem dX5_withOil_28 : decode cX5_withOil 28 = .ok (.istore_n 1, 1) := by decide +kernel
theorem dX5_withOil_29 : decode cX5_withOil 29 = .ok (.iinc 2 1, 3) := by decide +kernel
theorem dX5_withOil_32 : decode cX5_withOil 32 = .ok (.goto (-28), 3) := by decide +kernel
theorem dX5_withOil_35 : decode cX5_withOil 35 = .ok (.iload_n 1, 1) := by decide +kernel
theorem dX5_withOil_36 : decode cX5_withOil 36 = .ok (.ireturn, 1) := by decide +kernel
set_option maxRecDepth 20000 in
theorem ggX5_round_J9_floorMod_7cf53 : GoodIn wsX5_round wsJ9_floorMod_7cf53 := goodIn_r _ [5] (by decide +kernel) (by decide +kernel)
set_option maxRecDepth 20000 in
theorem gX5_round_J9_floorMod_7cf53 : GoodIn wsX5_round (va_wsS RX5 67 yJ9_floorMod_7cf53 wsJ9_floorMod_7cf53) := goodIn_app (goodIn_of _ (by decide +kernel)) ggX5_round_J9_floorMod_7cf53
theorem dX5_round_0 : decode cX5_round 0 = .ok (.aload_n 0, 1) := by decide +kernel
theorem dX5_round_1 : decode cX5_round 1 = .ok (.getfield 43, 3) := by decide +kernel
theorem dX5_round_4 : decode cX5_round 4 = .ok (.iconst 1, 1) := by decide +kernel
theorem dX5_round_5 : decode cX5_round 5 = .ok (.if_icmp .ge 7, 3) := by decide +kernel
theorem dX5_round_8 : decode cX5_round 8 = .ok (.iconst 0, 1) := by decide +kernel
theorem dX5_round_9 : decode cX5_round 9 = .ok (.goto 11, 3) := by decide +kernel
theorem dX5_round_12 : decode cX5_round 12 = .ok (.iload_n 1, 1) := by decide +kernel
theorem dX5_round_13 : decode cX5_round 13 = .ok (.aload_n 0, 1) := by decide +kernel
theorem dX5_round_14 : decode cX5_round 14 = .ok (.getfield 43, 3) := by decide +kernel
theorem dX5_round_17 : decode cX5_round 17 = .ok (.invokestatic 67, 3) := by decide +kernel
theorem dX5_round_20 : decode cX5_round 20 = .ok (.ireturn, 1) := by decide +kernel
set_option maxRecDepth 20000 in
theorem ggX5_postBefore_X5_round : GoodIn wsX5_postBefore wsX5_round := goodIn_r _ [6, 7, 8, 9, 10, 11, 12, 13, 14, 15, 16, 17, 18, 19, 20, 21, 22] (by decide +kernel) (by decide +kernel)
set_option maxRecDepth 20000 in
theorem gX5_postBefore_X5_round : GoodIn wsX5_postBefore (wsV RX5 73 RX5 yX5_round wsX5_round) := goodIn_app (goodIn_of _ (by decide +kernel)) ggX5_postBefore_X5_round
theorem dX5_postBefore_0 : decode cX5_postBefore 0 = .ok (.aload_n 0, 1) := by decide +kernel
theorem dX5_postBefore_1 : decode cX5_postBefore 1 = .ok (.iload_n 1, 1) := by decide +kernel
theorem dX5_postBefore_2 : decode cX5_postBefore 2 = .ok (.iload_n 2, 1) := by decide +kernel
theorem dX5_postBefore_3 : decode cX5_postBefore 3 = .ok (.aload_n 0, 1) := by decide +kernel
theorem dX5_postBefore_4 : decode cX5_postBefore 4 = .ok (.getfield 29, 3) := by decide +kernel
theorem dX5_postBefore_7 : decode cX5_postBefore 7 = .ok (.imul, 1) := by decide +kernel
theorem dX5_postBefore_8 : decode cX5_postBefore 8 = .ok (.isub, 1) := by decide +kernel
theorem dX5_postBefore_9 : decode cX5_postBefore 9 = .ok (.invokevirtual 73, 3) := by decide +kernel
theorem dX5_postBefore_12 : decode cX5_postBefore 12 = .ok (.ireturn, 1) := by decide +kernel
theorem dX5_isWarm_0 : decode cX5_isWarm 0 = .ok (.iload_n 2, 1) := by decide +kernel
theorem dX5_isWarm_1 : decode cX5_isWarm 1 = .ok (.ifCond .ne 19, 3) := by decide +kernel
theorem dX5_isWarm_4 : decode cX5_isWarm 4 = .ok (.iload_n 3, 1) := by decide +kernel
theorem dX5_isWarm_5 : decode cX5_isWarm 5 = .ok (.aload_n 0, 1) := by decide +kernel
theorem dX5_isWarm_6 : decode cX5_isWarm 6 = .ok (.getfield 34, 3) := by decide +kernel
theorem dX5_isWarm_9 : decode cX5_isWarm 9 = .ok (.if_icmp .lt 15, 3) := by decide +kernel
theorem dX5_isWarm_12 : decode cX5_isWarm 12 = .ok (.iload_n 3, 1) := by decide +kernel
theorem dX5_isWarm_13 : decode cX5_isWarm 13 = .ok (.aload_n 0, 1) := by decide +kernel
theorem dX5_isWarm_14 : decode cX5_isWarm 14 = .ok (.getfield 37, 3) := by decide +kernel
theorem dX5_isWarm_17 : decode cX5_isWarm 17 = .ok (.if_icmp .gt 7, 3) := by decide +kernel
theorem dX5_isWarm_20 : decode cX5_isWarm 20 = .ok (.iconst 1, 1) := by decide +kernel
theorem dX5_isWarm_21 : decode cX5_isWarm 21 = .ok (.goto 4, 3) := by decide +kernel
theorem dX5_isWarm_24 : decode cX5_isWarm 24 = .ok (.iconst 0, 1) := by decide +kernel
theorem dX5_isWarm_25 : decode cX5_isWarm 25 = .ok (.istore 4, 2) := by decide +kernel
theorem dX5_isWarm_27 : decode cX5_isWarm 27 = .ok (.iload_n 1, 1) := by decide +kernel
theorem dX5_isWarm_28 : decode cX5_isWarm 28 = .ok (.iconst 1, 1) := by decide +kernel
theorem dX5_isWarm_29 : decode cX5_isWarm 29 = .ok (.if_icmp .eq 22, 3) := by decide +kernel
theorem dX5_isWarm_32 : decode cX5_isWarm 32 = .ok (.iload 4, 2) := by decide +kernel
theorem dX5_isWarm_34 : decode cX5_isWarm 34 = .ok (.iload_n 1, 1) := by decide +kernel
theorem dX5_isWarm_35 : decode cX5_isWarm 35 = .ok (.iconst 2, 1) := by decide +kernel
theorem dX5_isWarm_36 : decode cX5_isWarm 36 = .ok (.if_icmp .ne 7, 3) := by decide +kernel
theorem dX5_isWarm_39 : decode cX5_isWarm 39 = .ok (.iconst 1, 1) := by decide +kernel
theorem dX5_isWarm_40 : decode cX5_isWarm 40 = .ok (.goto 4, 3) := by decide +kernel
theorem dX5_isWarm_43 : decode cX5_isWarm 43 = .ok (.iconst 0, 1) := by decide +kernel
theorem dX5_isWarm_44 : decode cX5_isWarm 44 = .ok (.if_icmp .eq 7, 3) := by decide +kernel
theorem dX5_isWarm_47 : decode cX5_isWarm 47 = .ok (.iconst 1, 1) := by decide +kernel
theorem dX5_isWarm_48 : decode cX5_isWarm 48 = .ok (.goto 4, 3) := by decide +kernel
theorem dX5_isWarm_51 : decode cX5_isWarm 51 = .ok (.iconst 0, 1) := by decide +kernel
theorem dX5_isWarm_52 : decode cX5_isWarm 52 = .ok (.ireturn, 1) := by decide +kernel
set_option maxRecDepth 20000 in
theorem ggX5_reckonDraughts_X3_set : GoodIn wsX5_reckonDraughts wsX3_set := goodIn_r _ [14, 15, 45] (by decide +kernel) (by decide +kernel)
set_option maxRecDepth 20000 in
theorem gX5_reckonDraughts_X3_set : GoodIn wsX5_reckonDraughts (wsV RX5 55 RX3 yX3_set wsX3_set) := goodIn_app (goodIn_of _ (by decide +kernel)) ggX5_reckonDraughts_X3_set
set_option maxRecDepth 20000 in
theorem ggX5_reckonDraughts_X3_get : GoodIn wsX5_reckonDraughts wsX3_get := goodIn_r _ [19, 15, 45] (by decide +kernel) (by decide +kernel)
set_option maxRecDepth 20000 in
theorem gX5_reckonDraughts_X3_get : GoodIn wsX5_reckonDraughts (wsV RX5 63 RX3 yX3_get wsX3_get) := goodIn_app (goodIn_of _ (by decide +kernel)) ggX5_reckonDraughts_X3_get
set_option maxRecDepth 20000 in
theorem ggX5_reckonDraughts_X5_postBefore : GoodIn wsX5_reckonDraughts wsX5_postBefore := goodIn_r _ [24, 25, 26, 27, 28, 23, 29, 1, 30, 31, 32, 33, 34, 35, 36, 37, 38, 39, 40, 41, 42, 43, 44] (by decide +kernel) (by decide +kernel)
set_option maxRecDepth 20000 in
theorem gX5_reckonDraughts_X5_postBefore : GoodIn wsX5_reckonDraughts (wsV RX5 76 RX5 yX5_postBefore wsX5_postBefore) := goodIn_app (goodIn_of _ (by decide +kernel)) ggX5_reckonDraughts_X5_postBefore
theorem dX5_reckonDraughts_0 : decode cX5_reckonDraughts 0 = .ok (.iconst 0, 1) := by decide +kernel
theorem dX5_reckonDraughts_1 : decode cX5_reckonDraughts 1 = .ok (.istore_n 3, 1) := by decide +kernel
theorem dX5_reckonDraughts_2 : decode cX5_reckonDraughts 2 = .ok (.iload_n 3, 1) := by decide +kernel
theorem dX5_reckonDraughts_3 : decode cX5_reckonDraughts 3 = .ok (.aload_n 0, 1) := by decide +kernel
theorem dX5_reckonDraughts_4 : decode cX5_reckonDraughts 4 = .ok (.getfield 43, 3) := by decide +kernel
theorem dX5_reckonDraughts_7 : decode cX5_reckonDraughts 7 = .ok (.if_icmp .ge 16, 3) := by decide +kernel
theorem dX5_reckonDraughts_10 : decode cX5_reckonDraughts 10 = .ok (.aload_n 2, 1) := by decide +kernel
theorem dX5_reckonDraughts_11 : decode cX5_reckonDraughts 11 = .ok (.iload_n 3, 1) := by decide +kernel
theorem dX5_reckonDraughts_12 : decode cX5_reckonDraughts 12 = .ok (.ldc 33, 2) := by decide +kernel
theorem dX5_reckonDraughts_14 : decode cX5_reckonDraughts 14 = .ok (.invokevirtual 55, 3) := by decide +kernel
theorem dX5_reckonDraughts_17 : decode cX5_reckonDraughts 17 = .ok (.iinc 3 1, 3) := by decide +kernel
theorem dX5_reckonDraughts_20 : decode cX5_reckonDraughts 20 = .ok (.goto (-18), 3) := by decide +kernel
theorem dX5_reckonDraughts_23 : decode cX5_reckonDraughts 23 = .ok (.iconst 0, 1) := by decide +kernel
theorem dX5_reckonDraughts_24 : decode cX5_reckonDraughts 24 = .ok (.istore_n 3, 1) := by decide +kernel
theorem dX5_reckonDraughts_25 : decode cX5_reckonDraughts 25 = .ok (.iload_n 3, 1) := by decide +kernel
theorem dX5_reckonDraughts_26 : decode cX5_reckonDraughts 26 = .ok (.aload_n 0, 1) := by decide +kernel
theorem dX5_reckonDraughts_27 : decode cX5_reckonDraughts 27 = .ok (.getfield 52, 3) := by decide +kernel
theorem dX5_reckonDraughts_30 : decode cX5_reckonDraughts 30 = .ok (.if_icmp .ge 60, 3) := by decide +kernel
theorem dX5_reckonDraughts_33 : decode cX5_reckonDraughts 33 = .ok (.aload_n 0, 1) := by decide +kernel
theorem dX5_reckonDraughts_34 : decode cX5_reckonDraughts 34 = .ok (.getfield 23, 3) := by decide +kernel
theorem dX5_reckonDraughts_37 : decode cX5_reckonDraughts 37 = .ok (.iload_n 3, 1) := by decide +kernel
theorem dX5_reckonDraughts_38 : decode cX5_reckonDraughts 38 = .ok (.invokevirtual 63, 3) := by decide +kernel
theorem dX5_reckonDraughts_41 : decode cX5_reckonDraughts 41 = .ok (.iload_n 1, 1) := by decide +kernel
theorem dX5_reckonDraughts_42 : decode cX5_reckonDraughts 42 = .ok (.isub, 1) := by decide +kernel
theorem dX5_reckonDraughts_43 : decode cX5_reckonDraughts 43 = .ok (.istore 4, 2) := by decide +kernel
theorem dX5_reckonDraughts_45 : decode cX5_reckonDraughts 45 = .ok (.iload 4, 2) := by decide +kernel
theorem dX5_reckonDraughts_47 : decode cX5_reckonDraughts 47 = .ok (.iconst 1, 1) := by decide +kernel
theorem dX5_reckonDraughts_48 : decode cX5_reckonDraughts 48 = .ok (.if_icmp .lt 36, 3) := by decide +kernel
theorem dX5_reckonDraughts_51 : decode cX5_reckonDraughts 51 = .ok (.aload_n 0, 1) := by decide +kernel
theorem dX5_reckonDraughts_52 : decode cX5_reckonDraughts 52 = .ok (.aload_n 0, 1) := by decide +kernel
theorem dX5_reckonDraughts_53 : decode cX5_reckonDraughts 53 = .ok (.getfield 26, 3) := by decide +kernel
theorem dX5_reckonDraughts_56 : decode cX5_reckonDraughts 56 = .ok (.iload_n 3, 1) := by decide +kernel
theorem dX5_reckonDraughts_57 : decode cX5_reckonDraughts 57 = .ok (.invokevirtual 63, 3) := by decide +kernel
theorem dX5_reckonDraughts_60 : decode cX5_reckonDraughts 60 = .ok (.iload 4, 2) := by decide +kernel
theorem dX5_reckonDraughts_62 : decode cX5_reckonDraughts 62 = .ok (.invokevirtual 76, 3) := by decide +kernel
theorem dX5_reckonDraughts_65 : decode cX5_reckonDraughts 65 = .ok (.istore 5, 2) := by decide +kernel
theorem dX5_reckonDraughts_67 : decode cX5_reckonDraughts 67 = .ok (.aload_n 2, 1) := by decide +kernel
theorem dX5_reckonDraughts_68 : decode cX5_reckonDraughts 68 = .ok (.iload 5, 2) := by decide +kernel
theorem dX5_reckonDraughts_70 : decode cX5_reckonDraughts 70 = .ok (.iload 4, 2) := by decide +kernel
theorem dX5_reckonDraughts_72 : decode cX5_reckonDraughts 72 = .ok (.aload_n 2, 1) := by decide +kernel
theorem dX5_reckonDraughts_73 : decode cX5_reckonDraughts 73 = .ok (.iload 5, 2) := by decide +kernel
theorem dX5_reckonDraughts_75 : decode cX5_reckonDraughts 75 = .ok (.invokevirtual 63, 3) := by decide +kernel
theorem dX5_reckonDraughts_78 : decode cX5_reckonDraughts 78 = .ok (.invokestatic 79, 3) := by decide +kernel
theorem dX5_reckonDraughts_81 : decode cX5_reckonDraughts 81 = .ok (.invokevirtual 55, 3) := by decide +kernel
theorem dX5_reckonDraughts_84 : decode cX5_reckonDraughts 84 = .ok (.iinc 3 1, 3) := by decide +kernel
theorem dX5_reckonDraughts_87 : decode cX5_reckonDraughts 87 = .ok (.goto (-62), 3) := by decide +kernel
theorem dX5_reckonDraughts_90 : decode cX5_reckonDraughts 90 = .ok (.return_, 1) := by decide +kernel
set_option maxRecDepth 20000 in
theorem ggX5_reckonLit_X5_reckonDraughts : GoodIn wsX5_reckonLit wsX5_reckonDraughts := goodIn_r _ [11, 1, 12, 13, 14, 15, 3, 4, 5, 6, 16, 17, 18, 19, 20, 21, 22, 23, 24, 25, 26, 27, 28, 10, 29, 30, 31, 32, 33, 34, 35, 36, 37, 38, 39, 40, 41, 42, 43, 44, 45, 46, 47, 48, 49, 50] (by decide +kernel) (by decide +kernel)
set_option maxRecDepth 20000 in
theorem gX5_reckonLit_X5_reckonDraughts : GoodIn wsX5_reckonLit (wsV RX5 82 RX5 yX5_reckonDraughts wsX5_reckonDraughts) := goodIn_app (goodIn_of _ (by decide +kernel)) ggX5_reckonLit_X5_reckonDraughts
set_option maxRecDepth 20000 in
theorem ggX5_reckonLit_X3_get : GoodIn wsX5_reckonLit wsX3_get := goodIn_r _ [25, 21, 50] (by decide +kernel) (by decide +kernel)
set_option maxRecDepth 20000 in
theorem gX5_reckonLit_X3_get : GoodIn wsX5_reckonLit (wsV RX5 63 RX3 yX3_get wsX3_get) := goodIn_app (goodIn_of _ (by decide +kernel)) ggX5_reckonLit_X3_get
set_option maxRecDepth 20000 in
theorem ggX5_reckonLit_X3_set : GoodIn wsX5_reckonLit wsX3_set := goodIn_r _ [20, 21, 50] (by decide +kernel) (by decide +kernel)
set_option maxRecDepth 20000 in
theorem gX5_reckonLit_X3_set : GoodIn wsX5_reckonLit (wsV RX5 55 RX3 yX3_set wsX3_set) := goodIn_app (goodIn_of _ (by decide +kernel)) ggX5_reckonLit_X3_set
theorem dX5_reckonLit_0 : decode cX5_reckonLit 0 = .ok (.aload_n 0, 1) := by decide +kernel
theorem dX5_reckonLit_1 : decode cX5_reckonLit 1 = .ok (.iconst 0, 1) := by decide +kernel
theorem dX5_reckonLit_2 : decode cX5_reckonLit 2 = .ok (.aload_n 2, 1) := by decide +kernel
theorem dX5_reckonLit_3 : decode cX5_reckonLit 3 = .ok (.invokevirtual 82, 3) := by decide +kernel
theorem dX5_reckonLit_6 : decode cX5_reckonLit 6 = .ok (.iconst 0, 1) := by decide +kernel
theorem dX5_reckonLit_7 : decode cX5_reckonLit 7 = .ok (.istore_n 3, 1) := by decide +kernel
theorem dX5_reckonLit_8 : decode cX5_reckonLit 8 = .ok (.iload_n 3, 1) := by decide +kernel
theorem dX5_reckonLit_9 : decode cX5_reckonLit 9 = .ok (.aload_n 0, 1) := by decide +kernel
theorem dX5_reckonLit_10 : decode cX5_reckonLit 10 = .ok (.getfield 43, 3) := by decide +kernel
theorem dX5_reckonLit_13 : decode cX5_reckonLit 13 = .ok (.if_icmp .ge 55, 3) := by decide +kernel
theorem dX5_reckonLit_16 : decode cX5_reckonLit 16 = .ok (.iload_n 1, 1) := by decide +kernel
theorem dX5_reckonLit_17 : decode cX5_reckonLit 17 = .ok (.iload_n 3, 1) := by decide +kernel
theorem dX5_reckonLit_18 : decode cX5_reckonLit 18 = .ok (.ishr, 1) := by decide +kernel
theorem dX5_reckonLit_19 : decode cX5_reckonLit 19 = .ok (.iconst 1, 1) := by decide +kernel
theorem dX5_reckonLit_20 : decode cX5_reckonLit 20 = .ok (.iand, 1) := by decide +kernel
theorem dX5_reckonLit_21 : decode cX5_reckonLit 21 = .ok (.iconst 1, 1) := by decide +kernel
theorem dX5_reckonLit_22 : decode cX5_reckonLit 22 = .ok (.if_icmp .ne 7, 3) := by decide +kernel
theorem dX5_reckonLit_25 : decode cX5_reckonLit 25 = .ok (.iconst 1, 1) := by decide +kernel
theorem dX5_reckonLit_26 : decode cX5_reckonLit 26 = .ok (.goto 4, 3) := by decide +kernel
theorem dX5_reckonLit_29 : decode cX5_reckonLit 29 = .ok (.iconst 0, 1) := by decide +kernel
theorem dX5_reckonLit_30 : decode cX5_reckonLit 30 = .ok (.istore 4, 2) := by decide +kernel
theorem dX5_reckonLit_32 : decode cX5_reckonLit 32 = .ok (.aload_n 2, 1) := by decide +kernel
theorem dX5_reckonLit_33 : decode cX5_reckonLit 33 = .ok (.iload_n 3, 1) := by decide +kernel
theorem dX5_reckonLit_34 : decode cX5_reckonLit 34 = .ok (.iload 4, 2) := by decide +kernel
theorem dX5_reckonLit_36 : decode cX5_reckonLit 36 = .ok (.ifCond .eq 22, 3) := by decide +kernel
theorem dX5_reckonLit_39 : decode cX5_reckonLit 39 = .ok (.aload_n 0, 1) := by decide +kernel
theorem dX5_reckonLit_40 : decode cX5_reckonLit 40 = .ok (.getfield 20, 3) := by decide +kernel
theorem dX5_reckonLit_43 : decode cX5_reckonLit 43 = .ok (.iload_n 3, 1) := by decide +kernel
theorem dX5_reckonLit_44 : decode cX5_reckonLit 44 = .ok (.invokevirtual 63, 3) := by decide +kernel
theorem dX5_reckonLit_47 : decode cX5_reckonLit 47 = .ok (.aload_n 2, 1) := by decide +kernel
theorem dX5_reckonLit_48 : decode cX5_reckonLit 48 = .ok (.iload_n 3, 1) := by decide +kernel
theorem dX5_reckonLit_49 : decode cX5_reckonLit 49 = .ok (.invokevirtual 63, 3) := by decide +kernel
theorem dX5_reckonLit_52 : decode cX5_reckonLit 52 = .ok (.invokestatic 79, 3) := by decide +kernel
theorem dX5_reckonLit_55 : decode cX5_reckonLit 55 = .ok (.goto 4, 3) := by decide +kernel
theorem dX5_reckonLit_58 : decode cX5_reckonLit 58 = .ok (.iconst 0, 1) := by decide +kernel
theorem dX5_reckonLit_59 : decode cX5_reckonLit 59 = .ok (.invokevirtual 55, 3) := by decide +kernel
theorem dX5_reckonLit_62 : decode cX5_reckonLit 62 = .ok (.iinc 3 1, 3) := by decide +kernel
theorem dX5_reckonLit_65 : decode cX5_reckonLit 65 = .ok (.goto (-57), 3) := by decide +kernel
theorem dX5_reckonLit_68 : decode cX5_reckonLit 68 = .ok (.return_, 1) := by decide +kernel
set_option maxRecDepth 20000 in
theorem ggX5_bellsNeeded_X5_round : GoodIn wsX5_bellsNeeded wsX5_round := goodIn_r _ [6, 7, 8, 9, 10, 11, 12, 13, 14, 15, 16, 17, 18, 19, 20, 21, 22] (by decide +kernel) (by decide +kernel)
set_option maxRecDepth 20000 in
theorem gX5_bellsNeeded_X5_round : GoodIn wsX5_bellsNeeded (wsV RX5 73 RX5 yX5_round wsX5_round) := goodIn_app (goodIn_of _ (by decide +kernel)) ggX5_bellsNeeded_X5_round
theorem dX5_bellsNeeded_0 : decode cX5_bellsNeeded 0 = .ok (.iload_n 3, 1) := by decide +kernel
theorem dX5_bellsNeeded_1 : decode cX5_bellsNeeded 1 = .ok (.istore 4, 2) := by decide +kernel
theorem dX5_bellsNeeded_3 : decode cX5_bellsNeeded 3 = .ok (.iload 4, 2) := by decide +kernel
theorem dX5_bellsNeeded_5 : decode cX5_bellsNeeded 5 = .ok (.ifCond .lt 35, 3) := by decide +kernel
theorem dX5_bellsNeeded_8 : decode cX5_bellsNeeded 8 = .ok (.iload_n 2, 1) := by decide +kernel
theorem dX5_bellsNeeded_9 : decode cX5_bellsNeeded 9 = .ok (.aload_n 0, 1) := by decide +kernel
theorem dX5_bellsNeeded_10 : decode cX5_bellsNeeded 10 = .ok (.iload_n 1, 1) := by decide +kernel
theorem dX5_bellsNeeded_11 : decode cX5_bellsNeeded 11 = .ok (.iload 4, 2) := by decide +kernel
theorem dX5_bellsNeeded_13 : decode cX5_bellsNeeded 13 = .ok (.aload_n 0, 1) := by decide +kernel
theorem dX5_bellsNeeded_14 : decode cX5_bellsNeeded 14 = .ok (.getfield 29, 3) := by decide +kernel
theorem dX5_bellsNeeded_17 : decode cX5_bellsNeeded 17 = .ok (.imul, 1) := by decide +kernel
theorem dX5_bellsNeeded_18 : decode cX5_bellsNeeded 18 = .ok (.iadd, 1) := by decide +kernel
theorem dX5_bellsNeeded_19 : decode cX5_bellsNeeded 19 = .ok (.invokevirtual 73, 3) := by decide +kernel
theorem dX5_bellsNeeded_22 : decode cX5_bellsNeeded 22 = .ok (.ishr, 1) := by decide +kernel
theorem dX5_bellsNeeded_23 : decode cX5_bellsNeeded 23 = .ok (.iconst 1, 1) := by decide +kernel
theorem dX5_bellsNeeded_24 : decode cX5_bellsNeeded 24 = .ok (.iand, 1) := by decide +kernel
theorem dX5_bellsNeeded_25 : decode cX5_bellsNeeded 25 = .ok (.iconst 1, 1) := by decide +kernel
theorem dX5_bellsNeeded_26 : decode cX5_bellsNeeded 26 = .ok (.if_icmp .ne 8, 3) := by decide +kernel
theorem dX5_bellsNeeded_29 : decode cX5_bellsNeeded 29 = .ok (.iload 4, 2) := by decide +kernel
theorem dX5_bellsNeeded_31 : decode cX5_bellsNeeded 31 = .ok (.iconst 1, 1) := by decide +kernel
theorem dX5_bellsNeeded_32 : decode cX5_bellsNeeded 32 = .ok (.iadd, 1) := by decide +kernel
theorem dX5_bellsNeeded_33 : decode cX5_bellsNeeded 33 = .ok (.ireturn, 1) := by decide +kernel
theorem dX5_bellsNeeded_34 : decode cX5_bellsNeeded 34 = .ok (.iinc 4 (-1), 3) := by decide +kernel
theorem dX5_bellsNeeded_37 : decode cX5_bellsNeeded 37 = .ok (.goto (-34), 3) := by decide +kernel
theorem dX5_bellsNeeded_40 : decode cX5_bellsNeeded 40 = .ok (.iconst 0, 1) := by decide +kernel
theorem dX5_bellsNeeded_41 : decode cX5_bellsNeeded 41 = .ok (.ireturn, 1) := by decide +kernel
