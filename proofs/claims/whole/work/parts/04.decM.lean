set_option maxRecDepth 20000 in
theorem ggX4_init_X4_sets : GoodIn wsX4_init wsX4_sets := goodIn_r _ [21, 5, 22, 23, 20, 24, 25, 26, 27, 28, 29, 30, 31, 32, 33, 34, 35, 36, 37, 38, 39, 40, 41, 42, 43] (by decide +kernel) (by decide +kernel)
set_option maxRecDepth 20000 in
theorem gX4_init_X4_sets : GoodIn wsX4_init (wsV RX4 44 RX4 yX4_sets wsX4_sets) := goodIn_app (goodIn_of _ (by decide +kernel)) ggX4_init_X4_sets
theorem dX4_init_0 : decode cX4_init 0 = .ok (.aload_n 0, 1) := by decide +kernel
theorem dX4_init_1 : decode cX4_init 1 = .ok (.invokespecial 1, 3) := by decide +kernel
theorem dX4_init_4 : decode cX4_init 4 = .ok (.aload_n 0, 1) := by decide +kernel
theorem dX4_init_5 : decode cX4_init 5 = .ok (.bipush 122, 2) := by decide +kernel
theorem dX4_init_7 : decode cX4_init 7 = .ok (.newarray .int, 2) := by decide +kernel
theorem dX4_init_9 : decode cX4_init 9 = .ok (.putfield 7, 3) := by decide +kernel
theorem dX4_init_12 : decode cX4_init 12 = .ok (.aload_n 0, 1) := by decide +kernel
theorem dX4_init_13 : decode cX4_init 13 = .ok (.bipush 122, 2) := by decide +kernel
theorem dX4_init_15 : decode cX4_init 15 = .ok (.newarray .int, 2) := by decide +kernel
theorem dX4_init_17 : decode cX4_init 17 = .ok (.putfield 13, 3) := by decide +kernel
theorem dX4_init_20 : decode cX4_init 20 = .ok (.aload_n 0, 1) := by decide +kernel
theorem dX4_init_21 : decode cX4_init 21 = .ok (.bipush 122, 2) := by decide +kernel
theorem dX4_init_23 : decode cX4_init 23 = .ok (.newarray .int, 2) := by decide +kernel
theorem dX4_init_25 : decode cX4_init 25 = .ok (.putfield 16, 3) := by decide +kernel
theorem dX4_init_28 : decode cX4_init 28 = .ok (.aload_n 0, 1) := by decide +kernel
theorem dX4_init_29 : decode cX4_init 29 = .ok (.bipush 122, 2) := by decide +kernel
theorem dX4_init_31 : decode cX4_init 31 = .ok (.newarray .int, 2) := by decide +kernel
theorem dX4_init_33 : decode cX4_init 33 = .ok (.putfield 19, 3) := by decide +kernel
theorem dX4_init_36 : decode cX4_init 36 = .ok (.aload_n 0, 1) := by decide +kernel
theorem dX4_init_37 : decode cX4_init 37 = .ok (.bipush 7, 2) := by decide +kernel
theorem dX4_init_39 : decode cX4_init 39 = .ok (.newarray .int, 2) := by decide +kernel
theorem dX4_init_41 : decode cX4_init 41 = .ok (.putfield 22, 3) := by decide +kernel
theorem dX4_init_44 : decode cX4_init 44 = .ok (.aload_n 0, 1) := by decide +kernel
theorem dX4_init_45 : decode cX4_init 45 = .ok (.bipush 12, 2) := by decide +kernel
theorem dX4_init_47 : decode cX4_init 47 = .ok (.newarray .int, 2) := by decide +kernel
theorem dX4_init_49 : decode cX4_init 49 = .ok (.putfield 25, 3) := by decide +kernel
theorem dX4_init_52 : decode cX4_init 52 = .ok (.aload_n 0, 1) := by decide +kernel
theorem dX4_init_53 : decode cX4_init 53 = .ok (.bipush 120, 2) := by decide +kernel
theorem dX4_init_55 : decode cX4_init 55 = .ok (.newarray .int, 2) := by decide +kernel
theorem dX4_init_57 : decode cX4_init 57 = .ok (.putfield 28, 3) := by decide +kernel
theorem dX4_init_60 : decode cX4_init 60 = .ok (.aload_n 0, 1) := by decide +kernel
theorem dX4_init_61 : decode cX4_init 61 = .ok (.iconst 4, 1) := by decide +kernel
theorem dX4_init_62 : decode cX4_init 62 = .ok (.newarray .int, 2) := by decide +kernel
theorem dX4_init_64 : decode cX4_init 64 = .ok (.putfield 31, 3) := by decide +kernel
theorem dX4_init_67 : decode cX4_init 67 = .ok (.aload_n 0, 1) := by decide +kernel
theorem dX4_init_68 : decode cX4_init 68 = .ok (.iconst 4, 1) := by decide +kernel
theorem dX4_init_69 : decode cX4_init 69 = .ok (.newarray .int, 2) := by decide +kernel
theorem dX4_init_71 : decode cX4_init 71 = .ok (.putfield 34, 3) := by decide +kernel
theorem dX4_init_74 : decode cX4_init 74 = .ok (.aload_n 0, 1) := by decide +kernel
theorem dX4_init_75 : decode cX4_init 75 = .ok (.sipush 160, 3) := by decide +kernel
theorem dX4_init_78 : decode cX4_init 78 = .ok (.newarray .long, 2) := by decide +kernel
theorem dX4_init_80 : decode cX4_init 80 = .ok (.putfield 37, 3) := by decide +kernel
theorem dX4_init_83 : decode cX4_init 83 = .ok (.aload_n 0, 1) := by decide +kernel
theorem dX4_init_84 : decode cX4_init 84 = .ok (.bipush 40, 2) := by decide +kernel
theorem dX4_init_86 : decode cX4_init 86 = .ok (.newarray .long, 2) := by decide +kernel
theorem dX4_init_88 : decode cX4_init 88 = .ok (.putfield 41, 3) := by decide +kernel
theorem dX4_init_91 : decode cX4_init 91 = .ok (.aload_n 0, 1) := by decide +kernel
theorem dX4_init_92 : decode cX4_init 92 = .ok (.getfield 7, 3) := by decide +kernel
theorem dX4_init_95 : decode cX4_init 95 = .ok (.iconst 1, 1) := by decide +kernel
theorem dX4_init_96 : decode cX4_init 96 = .ok (.bipush 63, 2) := by decide +kernel
theorem dX4_init_98 : decode cX4_init 98 = .ok (.iastore, 1) := by decide +kernel
theorem dX4_init_99 : decode cX4_init 99 = .ok (.iconst 0, 1) := by decide +kernel
theorem dX4_init_100 : decode cX4_init 100 = .ok (.istore_n 1, 1) := by decide +kernel
theorem dX4_init_101 : decode cX4_init 101 = .ok (.iload_n 1, 1) := by decide +kernel
theorem dX4_init_102 : decode cX4_init 102 = .ok (.bipush 12, 2) := by decide +kernel
theorem dX4_init_104 : decode cX4_init 104 = .ok (.if_icmp .ge 17, 3) := by decide +kernel
theorem dX4_init_107 : decode cX4_init 107 = .ok (.aload_n 0, 1) := by decide +kernel
theorem dX4_init_108 : decode cX4_init 108 = .ok (.iload_n 1, 1) := by decide +kernel
theorem dX4_init_109 : decode cX4_init 109 = .ok (.iconst 0, 1) := by decide +kernel
theorem dX4_init_110 : decode cX4_init 110 = .ok (.bipush 40, 2) := by decide +kernel
theorem dX4_init_112 : decode cX4_init 112 = .ok (.invokevirtual 44, 3) := by decide +kernel
theorem dX4_init_115 : decode cX4_init 115 = .ok (.iinc 1 1, 3) := by decide +kernel
theorem dX4_init_118 : decode cX4_init 118 = .ok (.goto (-17), 3) := by decide +kernel
theorem dX4_init_121 : decode cX4_init 121 = .ok (.return_, 1) := by decide +kernel
theorem dX4_in_0 : decode cX4_in 0 = .ok (.lload_n 0, 1) := by decide +kernel
theorem dX4_in_1 : decode cX4_in 1 = .ok (.lload_n 2, 1) := by decide +kernel
theorem dX4_in_2 : decode cX4_in 2 = .ok (.lcmp, 1) := by decide +kernel
theorem dX4_in_3 : decode cX4_in 3 = .ok (.ifCond .lt 14, 3) := by decide +kernel
theorem dX4_in_6 : decode cX4_in 6 = .ok (.lload_n 0, 1) := by decide +kernel
theorem dX4_in_7 : decode cX4_in 7 = .ok (.lload 4, 2) := by decide +kernel
theorem dX4_in_9 : decode cX4_in 9 = .ok (.lcmp, 1) := by decide +kernel
theorem dX4_in_10 : decode cX4_in 10 = .ok (.ifCond .gt 7, 3) := by decide +kernel
theorem dX4_in_13 : decode cX4_in 13 = .ok (.iconst 1, 1) := by decide +kernel
theorem dX4_in_14 : decode cX4_in 14 = .ok (.goto 4, 3) := by decide +kernel
theorem dX4_in_17 : decode cX4_in 17 = .ok (.iconst 0, 1) := by decide +kernel
theorem dX4_in_18 : decode cX4_in 18 = .ok (.ireturn, 1) := by decide +kernel
theorem dX4_finds_0 : decode cX4_finds 0 = .ok (.aload_n 0, 1) := by decide +kernel
theorem dX4_finds_1 : decode cX4_finds 1 = .ok (.getfield 22, 3) := by decide +kernel
theorem dX4_finds_4 : decode cX4_finds 4 = .ok (.ldc 48, 2) := by decide +kernel
theorem dX4_finds_6 : decode cX4_finds 6 = .ok (.iload_n 1, 1) := by decide +kernel
theorem dX4_finds_7 : decode cX4_finds 7 = .ok (.isub, 1) := by decide +kernel
theorem dX4_finds_8 : decode cX4_finds 8 = .ok (.dup2, 1) := by decide +kernel
theorem dX4_finds_9 : decode cX4_finds 9 = .ok (.iaload, 1) := by decide +kernel
theorem dX4_finds_10 : decode cX4_finds 10 = .ok (.iconst 1, 1) := by decide +kernel
theorem dX4_finds_11 : decode cX4_finds 11 = .ok (.iadd, 1) := by decide +kernel
theorem dX4_finds_12 : decode cX4_finds 12 = .ok (.iastore, 1) := by decide +kernel
theorem dX4_finds_13 : decode cX4_finds 13 = .ok (.iload_n 1, 1) := by decide +kernel
theorem dX4_finds_14 : decode cX4_finds 14 = .ok (.ireturn, 1) := by decide +kernel
theorem dX4_saves_0 : decode cX4_saves 0 = .ok (.iconst 0, 1) := by decide +kernel
theorem dX4_saves_1 : decode cX4_saves 1 = .ok (.istore_n 1, 1) := by decide +kernel
theorem dX4_saves_2 : decode cX4_saves 2 = .ok (.iload_n 1, 1) := by decide +kernel
theorem dX4_saves_3 : decode cX4_saves 3 = .ok (.bipush 122, 2) := by decide +kernel
theorem dX4_saves_5 : decode cX4_saves 5 = .ok (.if_icmp .ge 21, 3) := by decide +kernel
theorem dX4_saves_8 : decode cX4_saves 8 = .ok (.aload_n 0, 1) := by decide +kernel
theorem dX4_saves_9 : decode cX4_saves 9 = .ok (.getfield 16, 3) := by decide +kernel
theorem dX4_saves_12 : decode cX4_saves 12 = .ok (.iload_n 1, 1) := by decide +kernel
theorem dX4_saves_13 : decode cX4_saves 13 = .ok (.aload_n 0, 1) := by decide +kernel
theorem dX4_saves_14 : decode cX4_saves 14 = .ok (.getfield 7, 3) := by decide +kernel
theorem dX4_saves_17 : decode cX4_saves 17 = .ok (.iload_n 1, 1) := by decide +kernel
theorem dX4_saves_18 : decode cX4_saves 18 = .ok (.iaload, 1) := by decide +kernel
theorem dX4_saves_19 : decode cX4_saves 19 = .ok (.iastore, 1) := by decide +kernel
theorem dX4_saves_20 : decode cX4_saves 20 = .ok (.iinc 1 1, 3) := by decide +kernel
theorem dX4_saves_23 : decode cX4_saves 23 = .ok (.goto (-21), 3) := by decide +kernel
theorem dX4_saves_26 : decode cX4_saves 26 = .ok (.return_, 1) := by decide +kernel
theorem dX4_putsBack_0 : decode cX4_putsBack 0 = .ok (.iconst 0, 1) := by decide +kernel
theorem dX4_putsBack_1 : decode cX4_putsBack 1 = .ok (.istore_n 1, 1) := by decide +kernel
theorem dX4_putsBack_2 : decode cX4_putsBack 2 = .ok (.iload_n 1, 1) := by decide +kernel
theorem dX4_putsBack_3 : decode cX4_putsBack 3 = .ok (.bipush 122, 2) := by decide +kernel
theorem dX4_putsBack_5 : decode cX4_putsBack 5 = .ok (.if_icmp .ge 21, 3) := by decide +kernel
theorem dX4_putsBack_8 : decode cX4_putsBack 8 = .ok (.aload_n 0, 1) := by decide +kernel
theorem dX4_putsBack_9 : decode cX4_putsBack 9 = .ok (.getfield 7, 3) := by decide +kernel
theorem dX4_putsBack_12 : decode cX4_putsBack 12 = .ok (.iload_n 1, 1) := by decide +kernel
theorem dX4_putsBack_13 : decode cX4_putsBack 13 = .ok (.aload_n 0, 1) := by decide +kernel
theorem dX4_putsBack_14 : decode cX4_putsBack 14 = .ok (.getfield 16, 3) := by decide +kernel
theorem dX4_putsBack_17 : decode cX4_putsBack 17 = .ok (.iload_n 1, 1) := by decide +kernel
theorem dX4_putsBack_18 : decode cX4_putsBack 18 = .ok (.iaload, 1) := by decide +kernel
theorem dX4_putsBack_19 : decode cX4_putsBack 19 = .ok (.iastore, 1) := by decide +kernel
theorem dX4_putsBack_20 : decode cX4_putsBack 20 = .ok (.iinc 1 1, 3) := by decide +kernel
theorem dX4_putsBack_23 : decode cX4_putsBack 23 = .ok (.goto (-21), 3) := by decide +kernel
theorem dX4_putsBack_26 : decode cX4_putsBack 26 = .ok (.return_, 1) := by decide +kernel
theorem dX4_laysAside_0 : decode cX4_laysAside 0 = .ok (.iconst 0, 1) := by decide +kernel
theorem dX4_laysAside_1 : decode cX4_laysAside 1 = .ok (.istore_n 1, 1) := by decide +kernel
theorem dX4_laysAside_2 : decode cX4_laysAside 2 = .ok (.iload_n 1, 1) := by decide +kernel
theorem dX4_laysAside_3 : decode cX4_laysAside 3 = .ok (.bipush 122, 2) := by decide +kernel
theorem dX4_laysAside_5 : decode cX4_laysAside 5 = .ok (.if_icmp .ge 21, 3) := by decide +kernel
theorem dX4_laysAside_8 : decode cX4_laysAside 8 = .ok (.aload_n 0, 1) := by decide +kernel
theorem dX4_laysAside_9 : decode cX4_laysAside 9 = .ok (.getfield 19, 3) := by decide +kernel
theorem dX4_laysAside_12 : decode cX4_laysAside 12 = .ok (.iload_n 1, 1) := by decide +kernel
theorem dX4_laysAside_13 : decode cX4_laysAside 13 = .ok (.aload_n 0, 1) := by decide +kernel
theorem dX4_laysAside_14 : decode cX4_laysAside 14 = .ok (.getfield 7, 3) := by decide +kernel
theorem dX4_laysAside_17 : decode cX4_laysAside 17 = .ok (.iload_n 1, 1) := by decide +kernel
theorem dX4_laysAside_18 : decode cX4_laysAside 18 = .ok (.iaload, 1) := by decide +kernel
theorem dX4_laysAside_19 : decode cX4_laysAside 19 = .ok (.iastore, 1) := by decide +kernel
theorem dX4_laysAside_20 : decode cX4_laysAside 20 = .ok (.iinc 1 1, 3) := by decide +kernel
theorem dX4_laysAside_23 : decode cX4_laysAside 23 = .ok (.goto (-21), 3) := by decide +kernel
theorem dX4_laysAside_26 : decode cX4_laysAside 26 = .ok (.return_, 1) := by decide +kernel
theorem dX4_takesBack_0 : decode cX4_takesBack 0 = .ok (.iconst 0, 1) := by decide +kernel
theorem dX4_takesBack_1 : decode cX4_takesBack 1 = .ok (.istore_n 2, 1) := by decide +kernel
theorem dX4_takesBack_2 : decode cX4_takesBack 2 = .ok (.iload_n 2, 1) := by decide +kernel
theorem dX4_takesBack_3 : decode cX4_takesBack 3 = .ok (.bipush 122, 2) := by decide +kernel
theorem dX4_takesBack_5 : decode cX4_takesBack 5 = .ok (.if_icmp .ge 21, 3) := by decide +kernel
theorem dX4_takesBack_8 : decode cX4_takesBack 8 = .ok (.aload_n 0, 1) := by decide +kernel
theorem dX4_takesBack_9 : decode cX4_takesBack 9 = .ok (.getfield 7, 3) := by decide +kernel
theorem dX4_takesBack_12 : decode cX4_takesBack 12 = .ok (.iload_n 2, 1) := by decide +kernel
theorem dX4_takesBack_13 : decode cX4_takesBack 13 = .ok (.aload_n 0, 1) := by decide +kernel
theorem dX4_takesBack_14 : decode cX4_takesBack 14 = .ok (.getfield 19, 3) := by decide +kernel
theorem dX4_takesBack_17 : decode cX4_takesBack 17 = .ok (.iload_n 2, 1) := by decide +kernel
theorem dX4_takesBack_18 : decode cX4_takesBack 18 = .ok (.iaload, 1) := by decide +kernel
theorem dX4_takesBack_19 : decode cX4_takesBack 19 = .ok (.iastore, 1) := by decide +kernel
theorem dX4_takesBack_20 : decode cX4_takesBack 20 = .ok (.iinc 2 1, 3) := by decide +kernel
theorem dX4_takesBack_23 : decode cX4_takesBack 23 = .ok (.goto (-21), 3) := by decide +kernel
theorem dX4_takesBack_26 : decode cX4_takesBack 26 = .ok (.iload_n 1, 1) := by decide +kernel
theorem dX4_takesBack_27 : decode cX4_takesBack 27 = .ok (.ireturn, 1) := by decide +kernel
theorem dX4_becomes_0 : decode cX4_becomes 0 = .ok (.aload_n 0, 1) := by decide +kernel
theorem dX4_becomes_1 : decode cX4_becomes 1 = .ok (.getfield 7, 3) := by decide +kernel
theorem dX4_becomes_4 : decode cX4_becomes 4 = .ok (.iload_n 1, 1) := by decide +kernel
theorem dX4_becomes_5 : decode cX4_becomes 5 = .ok (.iaload, 1) := by decide +kernel
theorem dX4_becomes_6 : decode cX4_becomes 6 = .ok (.istore_n 3, 1) := by decide +kernel
theorem dX4_becomes_7 : decode cX4_becomes 7 = .ok (.aload_n 0, 1) := by decide +kernel
theorem dX4_becomes_8 : decode cX4_becomes 8 = .ok (.getfield 7, 3) := by decide +kernel
theorem dX4_becomes_11 : decode cX4_becomes 11 = .ok (.iload_n 1, 1) := by decide +kernel
theorem dX4_becomes_12 : decode cX4_becomes 12 = .ok (.iload_n 2, 1) := by decide +kernel
theorem dX4_becomes_13 : decode cX4_becomes 13 = .ok (.iastore, 1) := by decide +kernel
theorem dX4_becomes_14 : decode cX4_becomes 14 = .ok (.iload_n 3, 1) := by decide +kernel
theorem dX4_becomes_15 : decode cX4_becomes 15 = .ok (.ireturn, 1) := by decide +kernel
set_option maxRecDepth 20000 in
theorem ggX4_isTree_X4_in : GoodIn wsX4_isTree wsX4_in := goodIn_r _ [5] (by decide +kernel) (by decide +kernel)
set_option maxRecDepth 20000 in
theorem gX4_isTree_X4_in : GoodIn wsX4_isTree (va_wsS RX4 51 yX4_in wsX4_in) := goodIn_app (goodIn_of _ (by decide +kernel)) ggX4_isTree_X4_in
theorem dX4_isTree_0 : decode cX4_isTree 0 = .ok (.iload_n 0, 1) := by decide +kernel
theorem dX4_isTree_1 : decode cX4_isTree 1 = .ok (.i2l, 1) := by decide +kernel
theorem dX4_isTree_2 : decode cX4_isTree 2 = .ok (.lconst 0, 1) := by decide +kernel
theorem dX4_isTree_3 : decode cX4_isTree 3 = .ok (.ldc2_w 49, 3) := by decide +kernel
theorem dX4_isTree_6 : decode cX4_isTree 6 = .ok (.invokestatic 51, 3) := by decide +kernel
theorem dX4_isTree_9 : decode cX4_isTree 9 = .ok (.ireturn, 1) := by decide +kernel
set_option maxRecDepth 20000 in
theorem ggX4_isMessage_X4_in : GoodIn wsX4_isMessage wsX4_in := goodIn_r _ [5] (by decide +kernel) (by decide +kernel)
set_option maxRecDepth 20000 in
theorem gX4_isMessage_X4_in : GoodIn wsX4_isMessage (va_wsS RX4 51 yX4_in wsX4_in) := goodIn_app (goodIn_of _ (by decide +kernel)) ggX4_isMessage_X4_in
theorem dX4_isMessage_0 : decode cX4_isMessage 0 = .ok (.iload_n 0, 1) := by decide +kernel
theorem dX4_isMessage_1 : decode cX4_isMessage 1 = .ok (.i2l, 1) := by decide +kernel
theorem dX4_isMessage_2 : decode cX4_isMessage 2 = .ok (.lconst 0, 1) := by decide +kernel
theorem dX4_isMessage_3 : decode cX4_isMessage 3 = .ok (.ldc2_w 55, 3) := by decide +kernel
theorem dX4_isMessage_6 : decode cX4_isMessage 6 = .ok (.invokestatic 51, 3) := by decide +kernel
theorem dX4_isMessage_9 : decode cX4_isMessage 9 = .ok (.ireturn, 1) := by decide +kernel
set_option maxRecDepth 20000 in
theorem ggX4_isKind_X4_in : GoodIn wsX4_isKind wsX4_in := goodIn_r _ [5] (by decide +kernel) (by decide +kernel)
set_option maxRecDepth 20000 in
theorem gX4_isKind_X4_in : GoodIn wsX4_isKind (va_wsS RX4 51 yX4_in wsX4_in) := goodIn_app (goodIn_of _ (by decide +kernel)) ggX4_isKind_X4_in
theorem dX4_isKind_0 : decode cX4_isKind 0 = .ok (.iload_n 0, 1) := by decide +kernel
theorem dX4_isKind_1 : decode cX4_isKind 1 = .ok (.i2l, 1) := by decide +kernel
theorem dX4_isKind_2 : decode cX4_isKind 2 = .ok (.lconst 0, 1) := by decide +kernel
theorem dX4_isKind_3 : decode cX4_isKind 3 = .ok (.ldc2_w 57, 3) := by decide +kernel
theorem dX4_isKind_6 : decode cX4_isKind 6 = .ok (.invokestatic 51, 3) := by decide +kernel
theorem dX4_isKind_9 : decode cX4_isKind 9 = .ok (.ireturn, 1) := by decide +kernel
theorem dX4_spotOf_0 : decode cX4_spotOf 0 = .ok (.iconst 2, 1) := by decide +kernel
theorem dX4_spotOf_1 : decode cX4_spotOf 1 = .ok (.bipush 10, 2) := by decide +kernel
theorem dX4_spotOf_3 : decode cX4_spotOf 3 = .ok (.iload_n 0, 1) := by decide +kernel
theorem dX4_spotOf_4 : decode cX4_spotOf 4 = .ok (.imul, 1) := by decide +kernel
theorem dX4_spotOf_5 : decode cX4_spotOf 5 = .ok (.iadd, 1) := by decide +kernel
theorem dX4_spotOf_6 : decode cX4_spotOf 6 = .ok (.iload_n 1, 1) := by decide +kernel
theorem dX4_spotOf_7 : decode cX4_spotOf 7 = .ok (.iadd, 1) := by decide +kernel
theorem dX4_spotOf_8 : decode cX4_spotOf 8 = .ok (.ireturn, 1) := by decide +kernel
set_option maxRecDepth 20000 in
theorem ggX4_its_X4_spotOf : GoodIn wsX4_its wsX4_spotOf := goodIn_r _ [5] (by decide +kernel) (by decide +kernel)
set_option maxRecDepth 20000 in
theorem gX4_its_X4_spotOf : GoodIn wsX4_its (va_wsS RX4 59 yX4_spotOf wsX4_spotOf) := goodIn_app (goodIn_of _ (by decide +kernel)) ggX4_its_X4_spotOf
theorem dX4_its_0 : decode cX4_its 0 = .ok (.aload_n 0, 1) := by decide +kernel
theorem dX4_its_1 : decode cX4_its 1 = .ok (.getfield 7, 3) := by decide +kernel
theorem dX4_its_4 : decode cX4_its 4 = .ok (.iload_n 1, 1) := by decide +kernel
theorem dX4_its_5 : decode cX4_its 5 = .ok (.iload_n 2, 1) := by decide +kernel
theorem dX4_its_6 : decode cX4_its 6 = .ok (.invokestatic 59, 3) := by decide +kernel
theorem dX4_its_9 : decode cX4_its 9 = .ok (.iaload, 1) := by decide +kernel
theorem dX4_its_10 : decode cX4_its 10 = .ok (.ireturn, 1) := by decide +kernel
set_option maxRecDepth 20000 in
theorem ggX4_sinceOf_X4_its : GoodIn wsX4_sinceOf wsX4_its := goodIn_r _ [5, 6, 7, 8, 4, 9, 10, 11, 12, 13, 14, 15, 16, 17, 18, 19, 20, 21, 22, 23, 24, 25, 26, 27, 28] (by decide +kernel) (by decide +kernel)
set_option maxRecDepth 20000 in
theorem gX4_sinceOf_X4_its : GoodIn wsX4_sinceOf (wsV RX4 63 RX4 yX4_its wsX4_its) := goodIn_app (goodIn_of _ (by decide +kernel)) ggX4_sinceOf_X4_its
theorem dX4_sinceOf_0 : decode cX4_sinceOf 0 = .ok (.aload_n 0, 1) := by decide +kernel
theorem dX4_sinceOf_1 : decode cX4_sinceOf 1 = .ok (.iload_n 1, 1) := by decide +kernel
theorem dX4_sinceOf_2 : decode cX4_sinceOf 2 = .ok (.iconst 2, 1) := by decide +kernel
theorem dX4_sinceOf_3 : decode cX4_sinceOf 3 = .ok (.iload_n 2, 1) := by decide +kernel
theorem dX4_sinceOf_4 : decode cX4_sinceOf 4 = .ok (.iadd, 1) := by decide +kernel
theorem dX4_sinceOf_5 : decode cX4_sinceOf 5 = .ok (.invokevirtual 63, 3) := by decide +kernel
theorem dX4_sinceOf_8 : decode cX4_sinceOf 8 = .ok (.ireturn, 1) := by decide +kernel
set_option maxRecDepth 20000 in
theorem ggX4_isKnown_X4_sinceOf : GoodIn wsX4_isKnown wsX4_sinceOf := goodIn_r _ [5, 6, 7, 8, 4, 9, 10, 11, 12, 13, 14, 15, 16, 17, 18, 19, 20, 21, 22, 23, 24, 25, 26, 27, 28, 29, 30, 31, 32] (by decide +kernel) (by decide +kernel)
set_option maxRecDepth 20000 in
theorem gX4_isKnown_X4_sinceOf : GoodIn wsX4_isKnown (wsV RX4 66 RX4 yX4_sinceOf wsX4_sinceOf) := goodIn_app (goodIn_of _ (by decide +kernel)) ggX4_isKnown_X4_sinceOf
theorem dX4_isKnown_0 : decode cX4_isKnown 0 = .ok (.aload_n 0, 1) := by decide +kernel
theorem dX4_isKnown_1 : decode cX4_isKnown 1 = .ok (.iload_n 1, 1) := by decide +kernel
theorem dX4_isKnown_2 : decode cX4_isKnown 2 = .ok (.iload_n 2, 1) := by decide +kernel
theorem dX4_isKnown_3 : decode cX4_isKnown 3 = .ok (.invokevirtual 66, 3) := by decide +kernel
theorem dX4_isKnown_6 : decode cX4_isKnown 6 = .ok (.iconst (-1), 1) := by decide +kernel
theorem dX4_isKnown_7 : decode cX4_isKnown 7 = .ok (.if_icmp .eq 7, 3) := by decide +kernel
theorem dX4_isKnown_10 : decode cX4_isKnown 10 = .ok (.iconst 1, 1) := by decide +kernel
theorem dX4_isKnown_11 : decode cX4_isKnown 11 = .ok (.goto 4, 3) := by decide +kernel
theorem dX4_isKnown_14 : decode cX4_isKnown 14 = .ok (.iconst 0, 1) := by decide +kernel
theorem dX4_isKnown_15 : decode cX4_isKnown 15 = .ok (.ireturn, 1) := by decide +kernel
theorem dX4_ones_0 : decode cX4_ones 0 = .ok (.iconst 0, 1) := by decide +kernel
theorem dX4_ones_1 : decode cX4_ones 1 = .ok (.istore_n 1, 1) := by decide +kernel
theorem dX4_ones_2 : decode cX4_ones 2 = .ok (.iload_n 0, 1) := by decide +kernel
theorem dX4_ones_3 : decode cX4_ones 3 = .ok (.istore_n 2, 1) := by decide +kernel
theorem dX4_ones_4 : decode cX4_ones 4 = .ok (.iload_n 2, 1) := by decide +kernel
theorem dX4_ones_5 : decode cX4_ones 5 = .ok (.ifCond .eq 15, 3) := by decide +kernel
theorem dX4_ones_8 : decode cX4_ones 8 = .ok (.iinc 1 1, 3) := by decide +kernel
theorem dX4_ones_11 : decode cX4_ones 11 = .ok (.iload_n 2, 1) := by decide +kernel
theorem dX4_ones_12 : decode cX4_ones 12 = .ok (.iload_n 2, 1) := by decide +kernel
theorem dX4_ones_13 : decode cX4_ones 13 = .ok (.iconst 1, 1) := by decide +kernel
theorem dX4_ones_14 : decode cX4_ones 14 = .ok (.isub, 1) := by decide +kernel
theorem dX4_ones_15 : decode cX4_ones 15 = .ok (.iand, 1) := by decide +kernel
theorem dX4_ones_16 : decode cX4_ones 16 = .ok (.istore_n 2, 1) := by decide +kernel
theorem dX4_ones_17 : decode cX4_ones 17 = .ok (.goto (-13), 3) := by decide +kernel
theorem dX4_ones_20 : decode cX4_ones 20 = .ok (.iload_n 1, 1) := by decide +kernel
theorem dX4_ones_21 : decode cX4_ones 21 = .ok (.ireturn, 1) := by decide +kernel
set_option maxRecDepth 20000 in
theorem ggX4_sets_X4_spotOf : GoodIn wsX4_sets wsX4_spotOf := goodIn_r _ [5] (by decide +kernel) (by decide +kernel)
set_option maxRecDepth 20000 in
theorem gX4_sets_X4_spotOf : GoodIn wsX4_sets (va_wsS RX4 59 yX4_spotOf wsX4_spotOf) := goodIn_app (goodIn_of _ (by decide +kernel)) ggX4_sets_X4_spotOf
theorem dX4_sets_0 : decode cX4_sets 0 = .ok (.aload_n 0, 1) := by decide +kernel
theorem dX4_sets_1 : decode cX4_sets 1 = .ok (.getfield 7, 3) := by decide +kernel
theorem dX4_sets_4 : decode cX4_sets 4 = .ok (.iload_n 1, 1) := by decide +kernel
theorem dX4_sets_5 : decode cX4_sets 5 = .ok (.iconst 0, 1) := by decide +kernel
theorem dX4_sets_6 : decode cX4_sets 6 = .ok (.invokestatic 59, 3) := by decide +kernel
theorem dX4_sets_9 : decode cX4_sets 9 = .ok (.iload_n 2, 1) := by decide +kernel
theorem dX4_sets_10 : decode cX4_sets 10 = .ok (.iastore, 1) := by decide +kernel
theorem dX4_sets_11 : decode cX4_sets 11 = .ok (.aload_n 0, 1) := by decide +kernel
theorem dX4_sets_12 : decode cX4_sets 12 = .ok (.getfield 7, 3) := by decide +kernel
theorem dX4_sets_15 : decode cX4_sets 15 = .ok (.iload_n 1, 1) := by decide +kernel
theorem dX4_sets_16 : decode cX4_sets 16 = .ok (.iconst 1, 1) := by decide +kernel
theorem dX4_sets_17 : decode cX4_sets 17 = .ok (.invokestatic 59, 3) := by decide +kernel
theorem dX4_sets_20 : decode cX4_sets 20 = .ok (.iload_n 3, 1) := by decide +kernel
theorem dX4_sets_21 : decode cX4_sets 21 = .ok (.iastore, 1) := by decide +kernel
theorem dX4_sets_22 : decode cX4_sets 22 = .ok (.iconst 0, 1) := by decide +kernel
theorem dX4_sets_23 : decode cX4_sets 23 = .ok (.istore 4, 2) := by decide +kernel
theorem dX4_sets_25 : decode cX4_sets 25 = .ok (.iload 4, 2) := by decide +kernel
theorem dX4_sets_27 : decode cX4_sets 27 = .ok (.bipush 8, 2) := by decide +kernel
theorem dX4_sets_29 : decode cX4_sets 29 = .ok (.if_icmp .ge 23, 3) := by decide +kernel
theorem dX4_sets_32 : decode cX4_sets 32 = .ok (.aload_n 0, 1) := by decide +kernel
theorem dX4_sets_33 : decode cX4_sets 33 = .ok (.getfield 7, 3) := by decide +kernel
theorem dX4_sets_36 : decode cX4_sets 36 = .ok (.iload_n 1, 1) := by decide +kernel
theorem dX4_sets_37 : decode cX4_sets 37 = .ok (.iconst 2, 1) := by decide +kernel
theorem dX4_sets_38 : decode cX4_sets 38 = .ok (.iload 4, 2) := by decide +kernel
theorem dX4_sets_40 : decode cX4_sets 40 = .ok (.iadd, 1) := by decide +kernel
theorem dX4_sets_41 : decode cX4_sets 41 = .ok (.invokestatic 59, 3) := by decide +kernel
theorem dX4_sets_44 : decode cX4_sets 44 = .ok (.iconst (-1), 1) := by decide +kernel
theorem dX4_sets_45 : decode cX4_sets 45 = .ok (.iastore, 1) := by decide +kernel
theorem dX4_sets_46 : decode cX4_sets 46 = .ok (.iinc 4 1, 3) := by decide +kernel
theorem dX4_sets_49 : decode cX4_sets 49 = .ok (.goto (-24), 3) := by decide +kernel
theorem dX4_sets_52 : decode cX4_sets 52 = .ok (.return_, 1) := by decide +kernel
set_option maxRecDepth 20000 in
theorem ggX4_leansOf_X4_its : GoodIn wsX4_leansOf wsX4_its := goodIn_r _ [5, 6, 7, 8, 4, 9, 10, 11, 12, 13, 14, 15, 16, 17, 18, 19, 20, 21, 22, 23, 24, 25, 26, 27, 28] (by decide +kernel) (by decide +kernel)
set_option maxRecDepth 20000 in
theorem gX4_leansOf_X4_its : GoodIn wsX4_leansOf (wsV RX4 63 RX4 yX4_its wsX4_its) := goodIn_app (goodIn_of _ (by decide +kernel)) ggX4_leansOf_X4_its
theorem dX4_leansOf_0 : decode cX4_leansOf 0 = .ok (.aload_n 0, 1) := by decide +kernel
theorem dX4_leansOf_1 : decode cX4_leansOf 1 = .ok (.iload_n 1, 1) := by decide +kernel
theorem dX4_leansOf_2 : decode cX4_leansOf 2 = .ok (.iconst 1, 1) := by decide +kernel
theorem dX4_leansOf_3 : decode cX4_leansOf 3 = .ok (.invokevirtual 63, 3) := by decide +kernel
theorem dX4_leansOf_6 : decode cX4_leansOf 6 = .ok (.bipush 10, 2) := by decide +kernel
theorem dX4_leansOf_8 : decode cX4_leansOf 8 = .ok (.if_icmp .ge 15, 3) := by decide +kernel
theorem dX4_leansOf_11 : decode cX4_leansOf 11 = .ok (.bipush 10, 2) := by decide +kernel
theorem dX4_leansOf_13 : decode cX4_leansOf 13 = .ok (.aload_n 0, 1) := by decide +kernel
theorem dX4_leansOf_14 : decode cX4_leansOf 14 = .ok (.iload_n 1, 1) := by decide +kernel
theorem dX4_leansOf_15 : decode cX4_leansOf 15 = .ok (.iconst 1, 1) := by decide +kernel
theorem dX4_leansOf_16 : decode cX4_leansOf 16 = .ok (.invokevirtual 63, 3) := by decide +kernel
theorem dX4_leansOf_19 : decode cX4_leansOf 19 = .ok (.isub, 1) := by decide +kernel
theorem dX4_leansOf_20 : decode cX4_leansOf 20 = .ok (.goto 4, 3) := by decide +kernel
theorem dX4_leansOf_23 : decode cX4_leansOf 23 = .ok (.iconst 0, 1) := by decide +kernel
theorem dX4_leansOf_24 : decode cX4_leansOf 24 = .ok (.istore_n 2, 1) := by decide +kernel
theorem dX4_leansOf_25 : decode cX4_leansOf 25 = .ok (.aload_n 0, 1) := by decide +kernel
theorem dX4_leansOf_26 : decode cX4_leansOf 26 = .ok (.iload_n 1, 1) := by decide +kernel
theorem dX4_leansOf_27 : decode cX4_leansOf 27 = .ok (.iconst 0, 1) := by decide +kernel
theorem dX4_leansOf_28 : decode cX4_leansOf 28 = .ok (.invokevirtual 63, 3) := by decide +kernel
theorem dX4_leansOf_31 : decode cX4_leansOf 31 = .ok (.tableswitch 51 1 5 #[33, 36, 40, 44, 47], 33) := by decide +kernel
theorem dX4_leansOf_64 : decode cX4_leansOf 64 = .ok (.bipush 7, 2) := by decide +kernel
theorem dX4_leansOf_66 : decode cX4_leansOf 66 = .ok (.ireturn, 1) := by decide +kernel
theorem dX4_leansOf_67 : decode cX4_leansOf 67 = .ok (.iconst 3, 1) := by decide +kernel
theorem dX4_leansOf_68 : decode cX4_leansOf 68 = .ok (.iload_n 2, 1) := by decide +kernel
theorem dX4_leansOf_69 : decode cX4_leansOf 69 = .ok (.iadd, 1) := by decide +kernel
theorem dX4_leansOf_70 : decode cX4_leansOf 70 = .ok (.ireturn, 1) := by decide +kernel
theorem dX4_leansOf_71 : decode cX4_leansOf 71 = .ok (.sipush 999, 3) := by decide +kernel
theorem dX4_leansOf_74 : decode cX4_leansOf 74 = .ok (.ireturn, 1) := by decide +kernel
theorem dX4_leansOf_75 : decode cX4_leansOf 75 = .ok (.bipush 14, 2) := by decide +kernel
theorem dX4_leansOf_77 : decode cX4_leansOf 77 = .ok (.ireturn, 1) := by decide +kernel
theorem dX4_leansOf_78 : decode cX4_leansOf 78 = .ok (.iconst 1, 1) := by decide +kernel
theorem dX4_leansOf_79 : decode cX4_leansOf 79 = .ok (.iload_n 2, 1) := by decide +kernel
theorem dX4_leansOf_80 : decode cX4_leansOf 80 = .ok (.iadd, 1) := by decide +kernel
theorem dX4_leansOf_81 : decode cX4_leansOf 81 = .ok (.ireturn, 1) := by decide +kernel
theorem dX4_leansOf_82 : decode cX4_leansOf 82 = .ok (.iconst 3, 1) := by decide +kernel
theorem dX4_leansOf_83 : decode cX4_leansOf 83 = .ok (.ireturn, 1) := by decide +kernel
set_option maxRecDepth 20000 in
theorem ggX4_nodsOf_X4_its : GoodIn wsX4_nodsOf wsX4_its := goodIn_r _ [5, 6, 7, 8, 4, 9, 10, 11, 12, 13, 14, 15, 16, 17, 18, 19, 20, 21, 22, 23, 24, 25, 26, 27, 28] (by decide +kernel) (by decide +kernel)
set_option maxRecDepth 20000 in
theorem gX4_nodsOf_X4_its : GoodIn wsX4_nodsOf (wsV RX4 63 RX4 yX4_its wsX4_its) := goodIn_app (goodIn_of _ (by decide +kernel)) ggX4_nodsOf_X4_its
theorem dX4_nodsOf_0 : decode cX4_nodsOf 0 = .ok (.aload_n 0, 1) := by decide +kernel
theorem dX4_nodsOf_1 : decode cX4_nodsOf 1 = .ok (.iload_n 1, 1) := by decide +kernel
theorem dX4_nodsOf_2 : decode cX4_nodsOf 2 = .ok (.iconst 0, 1) := by decide +kernel
theorem dX4_nodsOf_3 : decode cX4_nodsOf 3 = .ok (.invokevirtual 63, 3) := by decide +kernel
theorem dX4_nodsOf_6 : decode cX4_nodsOf 6 = .ok (.tableswitch 57 1 5 #[34, 36, 53, 34, 36], 34) := by decide +kernel
theorem dX4_nodsOf_40 : decode cX4_nodsOf 40 = .ok (.iconst 2, 1) := by decide +kernel
theorem dX4_nodsOf_41 : decode cX4_nodsOf 41 = .ok (.ireturn, 1) := by decide +kernel
theorem dX4_nodsOf_42 : decode cX4_nodsOf 42 = .ok (.aload_n 0, 1) := by decide +kernel
theorem dX4_nodsOf_43 : decode cX4_nodsOf 43 = .ok (.iload_n 1, 1) := by decide +kernel
theorem dX4_nodsOf_44 : decode cX4_nodsOf 44 = .ok (.iconst 1, 1) := by decide +kernel
theorem dX4_nodsOf_45 : decode cX4_nodsOf 45 = .ok (.invokevirtual 63, 3) := by decide +kernel
theorem dX4_nodsOf_48 : decode cX4_nodsOf 48 = .ok (.bipush 20, 2) := by decide +kernel
theorem dX4_nodsOf_50 : decode cX4_nodsOf 50 = .ok (.if_icmp .ge 7, 3) := by decide +kernel
theorem dX4_nodsOf_53 : decode cX4_nodsOf 53 = .ok (.iconst 2, 1) := by decide +kernel
theorem dX4_nodsOf_54 : decode cX4_nodsOf 54 = .ok (.goto 4, 3) := by decide +kernel
theorem dX4_nodsOf_57 : decode cX4_nodsOf 57 = .ok (.iconst 1, 1) := by decide +kernel
theorem dX4_nodsOf_58 : decode cX4_nodsOf 58 = .ok (.ireturn, 1) := by decide +kernel
theorem dX4_nodsOf_59 : decode cX4_nodsOf 59 = .ok (.sipush 999, 3) := by decide +kernel
theorem dX4_nodsOf_62 : decode cX4_nodsOf 62 = .ok (.ireturn, 1) := by decide +kernel
theorem dX4_nodsOf_63 : decode cX4_nodsOf 63 = .ok (.iconst 1, 1) := by decide +kernel
theorem dX4_nodsOf_64 : decode cX4_nodsOf 64 = .ok (.ireturn, 1) := by decide +kernel
set_option maxRecDepth 20000 in
theorem ggX4_isHearing_X4_its : GoodIn wsX4_isHearing wsX4_its := goodIn_r _ [6, 1, 7, 8, 5, 9, 10, 11, 12, 13, 14, 15, 16, 17, 18, 19, 20, 21, 22, 23, 24, 25, 26, 27, 28] (by decide +kernel) (by decide +kernel)
set_option maxRecDepth 20000 in
theorem gX4_isHearing_X4_its : GoodIn wsX4_isHearing (wsV RX4 63 RX4 yX4_its wsX4_its) := goodIn_app (goodIn_of _ (by decide +kernel)) ggX4_isHearing_X4_its
theorem dX4_isHearing_0 : decode cX4_isHearing 0 = .ok (.aload_n 0, 1) := by decide +kernel
theorem dX4_isHearing_1 : decode cX4_isHearing 1 = .ok (.iload_n 1, 1) := by decide +kernel
theorem dX4_isHearing_2 : decode cX4_isHearing 2 = .ok (.iconst 0, 1) := by decide +kernel
theorem dX4_isHearing_3 : decode cX4_isHearing 3 = .ok (.invokevirtual 63, 3) := by decide +kernel
theorem dX4_isHearing_6 : decode cX4_isHearing 6 = .ok (.tableswitch 89 1 5 #[34, 51, 67, 34, 69], 34) := by decide +kernel
theorem dX4_isHearing_40 : decode cX4_isHearing 40 = .ok (.aload_n 0, 1) := by decide +kernel
theorem dX4_isHearing_41 : decode cX4_isHearing 41 = .ok (.getfield 7, 3) := by decide +kernel
theorem dX4_isHearing_44 : decode cX4_isHearing 44 = .ok (.iconst 0, 1) := by decide +kernel
theorem dX4_isHearing_45 : decode cX4_isHearing 45 = .ok (.iaload, 1) := by decide +kernel
theorem dX4_isHearing_46 : decode cX4_isHearing 46 = .ok (.iconst 3, 1) := by decide +kernel
theorem dX4_isHearing_47 : decode cX4_isHearing 47 = .ok (.irem, 1) := by decide +kernel
theorem dX4_isHearing_48 : decode cX4_isHearing 48 = .ok (.ifCond .eq 7, 3) := by decide +kernel
theorem dX4_isHearing_51 : decode cX4_isHearing 51 = .ok (.iconst 1, 1) := by decide +kernel
theorem dX4_isHearing_52 : decode cX4_isHearing 52 = .ok (.goto 4, 3) := by decide +kernel
theorem dX4_isHearing_55 : decode cX4_isHearing 55 = .ok (.iconst 0, 1) := by decide +kernel
theorem dX4_isHearing_56 : decode cX4_isHearing 56 = .ok (.ireturn, 1) := by decide +kernel
theorem dX4_isHearing_57 : decode cX4_isHearing 57 = .ok (.aload_n 0, 1) := by decide +kernel
theorem dX4_isHearing_58 : decode cX4_isHearing 58 = .ok (.iload_n 1, 1) := by decide +kernel
theorem dX4_isHearing_59 : decode cX4_isHearing 59 = .ok (.iconst 1, 1) := by decide +kernel
theorem dX4_isHearing_60 : decode cX4_isHearing 60 = .ok (.invokevirtual 63, 3) := by decide +kernel
theorem dX4_isHearing_63 : decode cX4_isHearing 63 = .ok (.iconst 5, 1) := by decide +kernel
theorem dX4_isHearing_64 : decode cX4_isHearing 64 = .ok (.if_icmp .lt 7, 3) := by decide +kernel
theorem dX4_isHearing_67 : decode cX4_isHearing 67 = .ok (.iconst 1, 1) := by decide +kernel
theorem dX4_isHearing_68 : decode cX4_isHearing 68 = .ok (.goto 4, 3) := by decide +kernel
theorem dX4_isHearing_71 : decode cX4_isHearing 71 = .ok (.iconst 0, 1) := by decide +kernel
theorem dX4_isHearing_72 : decode cX4_isHearing 72 = .ok (.ireturn, 1) := by decide +kernel
theorem dX4_isHearing_73 : decode cX4_isHearing 73 = .ok (.iconst 0, 1) := by decide +kernel
theorem dX4_isHearing_74 : decode cX4_isHearing 74 = .ok (.ireturn, 1) := by decide +kernel
theorem dX4_isHearing_75 : decode cX4_isHearing 75 = .ok (.iload_n 2, 1) := by decide +kernel
theorem dX4_isHearing_76 : decode cX4_isHearing 76 = .ok (.ifCond .ne 13, 3) := by decide +kernel
theorem dX4_isHearing_79 : decode cX4_isHearing 79 = .ok (.aload_n 0, 1) := by decide +kernel
theorem dX4_isHearing_80 : decode cX4_isHearing 80 = .ok (.iload_n 1, 1) := by decide +kernel
theorem dX4_isHearing_81 : decode cX4_isHearing 81 = .ok (.iconst 1, 1) := by decide +kernel
theorem dX4_isHearing_82 : decode cX4_isHearing 82 = .ok (.invokevirtual 63, 3) := by decide +kernel
theorem dX4_isHearing_85 : decode cX4_isHearing 85 = .ok (.iconst 5, 1) := by decide +kernel
theorem dX4_isHearing_86 : decode cX4_isHearing 86 = .ok (.if_icmp .lt 7, 3) := by decide +kernel
theorem dX4_isHearing_89 : decode cX4_isHearing 89 = .ok (.iconst 1, 1) := by decide +kernel
theorem dX4_isHearing_90 : decode cX4_isHearing 90 = .ok (.goto 4, 3) := by decide +kernel
theorem dX4_isHearing_93 : decode cX4_isHearing 93 = .ok (.iconst 0, 1) := by decide +kernel
theorem dX4_isHearing_94 : decode cX4_isHearing 94 = .ok (.ireturn, 1) := by decide +kernel
theorem dX4_isHearing_95 : decode cX4_isHearing 95 = .ok (.iconst 1, 1) := by decide +kernel
theorem dX4_isHearing_96 : decode cX4_isHearing 96 = .ok (.ireturn, 1) := by decide +kernel
set_option maxRecDepth 20000 in
theorem ggX4_knownBy_X4_isKnown : GoodIn wsX4_knownBy wsX4_isKnown := goodIn_r _ [5, 6, 7, 8, 4, 9, 10, 11, 12, 13, 14, 15, 16, 17, 18, 19, 20, 21, 22, 23, 24, 25, 26, 27, 28, 29, 30, 31, 32, 33, 34, 35, 36] (by decide +kernel) (by decide +kernel)
set_option maxRecDepth 20000 in
theorem gX4_knownBy_X4_isKnown : GoodIn wsX4_knownBy (wsV RX4 69 RX4 yX4_isKnown wsX4_isKnown) := goodIn_app (goodIn_of _ (by decide +kernel)) ggX4_knownBy_X4_isKnown
theorem dX4_knownBy_0 : decode cX4_knownBy 0 = .ok (.iconst 0, 1) := by decide +kernel
theorem dX4_knownBy_1 : decode cX4_knownBy 1 = .ok (.istore_n 2, 1) := by decide +kernel
theorem dX4_knownBy_2 : decode cX4_knownBy 2 = .ok (.iconst 0, 1) := by decide +kernel
theorem dX4_knownBy_3 : decode cX4_knownBy 3 = .ok (.istore_n 3, 1) := by decide +kernel
theorem dX4_knownBy_4 : decode cX4_knownBy 4 = .ok (.iload_n 3, 1) := by decide +kernel
theorem dX4_knownBy_5 : decode cX4_knownBy 5 = .ok (.bipush 8, 2) := by decide +kernel
theorem dX4_knownBy_7 : decode cX4_knownBy 7 = .ok (.if_icmp .ge 28, 3) := by decide +kernel
theorem dX4_knownBy_10 : decode cX4_knownBy 10 = .ok (.iload_n 2, 1) := by decide +kernel
theorem dX4_knownBy_11 : decode cX4_knownBy 11 = .ok (.aload_n 0, 1) := by decide +kernel
theorem dX4_knownBy_12 : decode cX4_knownBy 12 = .ok (.iload_n 1, 1) := by decide +kernel
theorem dX4_knownBy_13 : decode cX4_knownBy 13 = .ok (.iload_n 3, 1) := by decide +kernel
theorem dX4_knownBy_14 : decode cX4_knownBy 14 = .ok (.invokevirtual 69, 3) := by decide +kernel
theorem dX4_knownBy_17 : decode cX4_knownBy 17 = .ok (.ifCond .eq 9, 3) := by decide +kernel
theorem dX4_knownBy_20 : decode cX4_knownBy 20 = .ok (.iconst 1, 1) := by decide +kernel
theorem dX4_knownBy_21 : decode cX4_knownBy 21 = .ok (.iload_n 3, 1) := by decide +kernel
theorem dX4_knownBy_22 : decode cX4_knownBy 22 = .ok (.ishl, 1) := by decide +kernel
theorem dX4_knownBy_23 : decode cX4_knownBy 23 = .ok (.goto 4, 3) := by decide +kernel
theorem dX4_knownBy_26 : decode cX4_knownBy 26 = .ok (.iconst 0, 1) := by decide +kernel
theorem dX4_knownBy_27 : decode cX4_knownBy 27 = .ok (.ior, 1) := by decide +kernel
theorem dX4_knownBy_28 : decode cX4_knownBy 28 = .ok (.istore_n 2, 1) := by decide +kernel
theorem dX4_knownBy_29 : decode cX4_knownBy 29 = .ok (.iinc 3 1, 3) := by decide +kernel
theorem dX4_knownBy_32 : decode cX4_knownBy 32 = .ok (.goto (-28), 3) := by decide +kernel
theorem dX4_knownBy_35 : decode cX4_knownBy 35 = .ok (.iload_n 2, 1) := by decide +kernel
theorem dX4_knownBy_36 : decode cX4_knownBy 36 = .ok (.ireturn, 1) := by decide +kernel
set_option maxRecDepth 20000 in
theorem ggX4_of_X4_isTree : GoodIn wsX4_of wsX4_isTree := goodIn_r _ [6, 7, 8, 9, 5, 10] (by decide +kernel) (by decide +kernel)
set_option maxRecDepth 20000 in
theorem gX4_of_X4_isTree : GoodIn wsX4_of (va_wsS RX4 73 yX4_isTree wsX4_isTree) := goodIn_app (goodIn_of _ (by decide +kernel)) ggX4_of_X4_isTree
set_option maxRecDepth 20000 in
theorem ggX4_of_X4_in : GoodIn wsX4_of wsX4_in := goodIn_r _ [10] (by decide +kernel) (by decide +kernel)
set_option maxRecDepth 20000 in
theorem gX4_of_X4_in : GoodIn wsX4_of (va_wsS RX4 51 yX4_in wsX4_in) := goodIn_app (goodIn_of _ (by decide +kernel)) ggX4_of_X4_in
set_option maxRecDepth 20000 in
theorem ggX4_of_X4_finds : GoodIn wsX4_of wsX4_finds := goodIn_r _ [14, 15, 2, 48, 49, 50, 51, 52, 53, 54, 55, 56, 57, 58, 59, 60, 61, 62, 63, 64, 65, 66] (by decide +kernel) (by decide +kernel)
set_option maxRecDepth 20000 in
theorem gX4_of_X4_finds : GoodIn wsX4_of (wsV RX4 77 RX4 yX4_finds wsX4_finds) := goodIn_app (goodIn_of _ (by decide +kernel)) ggX4_of_X4_finds
set_option maxRecDepth 20000 in
theorem ggX4_of_X4_leansOf : GoodIn wsX4_of wsX4_leansOf := goodIn_r _ [19, 20, 21, 22, 5, 23, 24, 25, 26, 27, 48, 49, 50, 51, 52, 53, 54, 55, 56, 57, 58, 59, 60, 61, 62, 63, 64, 65, 66] (by decide +kernel) (by decide +kernel)
set_option maxRecDepth 20000 in
theorem gX4_of_X4_leansOf : GoodIn wsX4_of (wsV RX4 81 RX4 yX4_leansOf wsX4_leansOf) := goodIn_app (goodIn_of _ (by decide +kernel)) ggX4_of_X4_leansOf
set_option maxRecDepth 20000 in
theorem ggX4_of_X4_nodsOf : GoodIn wsX4_of wsX4_nodsOf := goodIn_r _ [31, 20, 21, 22, 5, 23, 24, 25, 26, 27, 48, 49, 50, 51, 52, 53, 54, 55, 56, 57, 58, 59, 60, 61, 62, 63, 64, 65, 66] (by decide +kernel) (by decide +kernel)
set_option maxRecDepth 20000 in
theorem gX4_of_X4_nodsOf : GoodIn wsX4_of (wsV RX4 84 RX4 yX4_nodsOf wsX4_nodsOf) := goodIn_app (goodIn_of _ (by decide +kernel)) ggX4_of_X4_nodsOf
set_option maxRecDepth 20000 in
theorem ggX4_of_X4_isHearing : GoodIn wsX4_of wsX4_isHearing := goodIn_r _ [35, 24, 20, 21, 22, 5, 23, 25, 26, 27, 48, 49, 50, 51, 52, 53, 54, 55, 56, 57, 58, 59, 60, 61, 62, 63, 64, 65, 66] (by decide +kernel) (by decide +kernel)
set_option maxRecDepth 20000 in
theorem gX4_of_X4_isHearing : GoodIn wsX4_of (wsV RX4 87 RX4 yX4_isHearing wsX4_isHearing) := goodIn_app (goodIn_of _ (by decide +kernel)) ggX4_of_X4_isHearing
set_option maxRecDepth 20000 in
theorem ggX4_of_X4_knownBy : GoodIn wsX4_of wsX4_knownBy := goodIn_r _ [39, 40, 41, 42, 5, 43, 44, 45, 46, 47, 20, 21, 22, 23, 24, 25, 26, 27, 48, 49, 50, 51, 52, 53, 54, 55, 56, 57, 58, 59, 60, 61, 62, 63, 64, 65, 66] (by decide +kernel) (by decide +kernel)
set_option maxRecDepth 20000 in
theorem gX4_of_X4_knownBy : GoodIn wsX4_of (wsV RX4 91 RX4 yX4_knownBy wsX4_knownBy) := goodIn_app (goodIn_of _ (by decide +kernel)) ggX4_of_X4_knownBy
set_option maxRecDepth 20000 in
theorem ggX4_of_X4_its : GoodIn wsX4_of wsX4_its := goodIn_r _ [23, 24, 25, 26, 5, 27, 48, 49, 50, 51, 52, 53, 54, 55, 56, 57, 58, 59, 60, 61, 62, 63, 64, 65, 66] (by decide +kernel) (by decide +kernel)
set_option maxRecDepth 20000 in
theorem gX4_of_X4_its : GoodIn wsX4_of (wsV RX4 63 RX4 yX4_its wsX4_its) := goodIn_app (goodIn_of _ (by decide +kernel)) ggX4_of_X4_its
theorem dX4_of_0 : decode cX4_of 0 = .ok (.iload_n 1, 1) := by decide +kernel
theorem dX4_of_1 : decode cX4_of 1 = .ok (.invokestatic 73, 3) := by decide +kernel
theorem dX4_of_4 : decode cX4_of 4 = .ok (.ifCond .eq 15, 3) := by decide +kernel
theorem dX4_of_7 : decode cX4_of 7 = .ok (.iload_n 2, 1) := by decide +kernel
theorem dX4_of_8 : decode cX4_of 8 = .ok (.i2l, 1) := by decide +kernel
theorem dX4_of_9 : decode cX4_of 9 = .ok (.lconst 0, 1) := by decide +kernel
theorem dX4_of_10 : decode cX4_of 10 = .ok (.ldc2_w 57, 3) := by decide +kernel
theorem dX4_of_13 : decode cX4_of 13 = .ok (.invokestatic 51, 3) := by decide +kernel
theorem dX4_of_16 : decode cX4_of 16 = .ok (.ifCond .ne 10, 3) := by decide +kernel
theorem dX4_of_19 : decode cX4_of 19 = .ok (.aload_n 0, 1) := by decide +kernel
theorem dX4_of_20 : decode cX4_of 20 = .ok (.ldc 48, 2) := by decide +kernel
theorem dX4_of_22 : decode cX4_of 22 = .ok (.invokevirtual 77, 3) := by decide +kernel
theorem dX4_of_25 : decode cX4_of 25 = .ok (.ireturn, 1) := by decide +kernel
theorem dX4_of_26 : decode cX4_of 26 = .ok (.iload_n 2, 1) := by decide +kernel
theorem dX4_of_27 : decode cX4_of 27 = .ok (.tableswitch 62 2 5 #[29, 35, 41, 56], 29) := by decide +kernel
theorem dX4_of_56 : decode cX4_of 56 = .ok (.aload_n 0, 1) := by decide +kernel
theorem dX4_of_57 : decode cX4_of 57 = .ok (.iload_n 1, 1) := by decide +kernel
theorem dX4_of_58 : decode cX4_of 58 = .ok (.invokevirtual 81, 3) := by decide +kernel
theorem dX4_of_61 : decode cX4_of 61 = .ok (.ireturn, 1) := by decide +kernel
theorem dX4_of_62 : decode cX4_of 62 = .ok (.aload_n 0, 1) := by decide +kernel
theorem dX4_of_63 : decode cX4_of 63 = .ok (.iload_n 1, 1) := by decide +kernel
theorem dX4_of_64 : decode cX4_of 64 = .ok (.invokevirtual 84, 3) := by decide +kernel
theorem dX4_of_67 : decode cX4_of 67 = .ok (.ireturn, 1) := by decide +kernel
theorem dX4_of_68 : decode cX4_of 68 = .ok (.aload_n 0, 1) := by decide +kernel
theorem dX4_of_69 : decode cX4_of 69 = .ok (.iload_n 1, 1) := by decide +kernel
theorem dX4_of_70 : decode cX4_of 70 = .ok (.iconst 0, 1) := by decide +kernel
theorem dX4_of_71 : decode cX4_of 71 = .ok (.invokevirtual 87, 3) := by decide +kernel
theorem dX4_of_74 : decode cX4_of 74 = .ok (.ifCond .eq 7, 3) := by decide +kernel
theorem dX4_of_77 : decode cX4_of 77 = .ok (.iconst 1, 1) := by decide +kernel
theorem dX4_of_78 : decode cX4_of 78 = .ok (.goto 4, 3) := by decide +kernel
theorem dX4_of_81 : decode cX4_of 81 = .ok (.iconst 0, 1) := by decide +kernel
theorem dX4_of_82 : decode cX4_of 82 = .ok (.ireturn, 1) := by decide +kernel
theorem dX4_of_83 : decode cX4_of 83 = .ok (.aload_n 0, 1) := by decide +kernel
theorem dX4_of_84 : decode cX4_of 84 = .ok (.iload_n 1, 1) := by decide +kernel
theorem dX4_of_85 : decode cX4_of 85 = .ok (.invokevirtual 91, 3) := by decide +kernel
theorem dX4_of_88 : decode cX4_of 88 = .ok (.ireturn, 1) := by decide +kernel
theorem dX4_of_89 : decode cX4_of 89 = .ok (.aload_n 0, 1) := by decide +kernel
theorem dX4_of_90 : decode cX4_of 90 = .ok (.iload_n 1, 1) := by decide +kernel
theorem dX4_of_91 : decode cX4_of 91 = .ok (.iload_n 2, 1) := by decide +kernel
theorem dX4_of_92 : decode cX4_of 92 = .ok (.invokevirtual 63, 3) := by decide +kernel
theorem dX4_of_95 : decode cX4_of 95 = .ok (.ireturn, 1) := by decide +kernel
set_option maxRecDepth 20000 in
theorem ggX4_since_X4_isTree : GoodIn wsX4_since wsX4_isTree := goodIn_r _ [6, 7, 8, 9, 5, 10] (by decide +kernel) (by decide +kernel)
set_option maxRecDepth 20000 in
theorem gX4_since_X4_isTree : GoodIn wsX4_since (va_wsS RX4 73 yX4_isTree wsX4_isTree) := goodIn_app (goodIn_of _ (by decide +kernel)) ggX4_since_X4_isTree
set_option maxRecDepth 20000 in
theorem ggX4_since_X4_isMessage : GoodIn wsX4_since wsX4_isMessage := goodIn_r _ [13, 14, 8, 9, 5, 10] (by decide +kernel) (by decide +kernel)
set_option maxRecDepth 20000 in
theorem gX4_since_X4_isMessage : GoodIn wsX4_since (va_wsS RX4 94 yX4_isMessage wsX4_isMessage) := goodIn_app (goodIn_of _ (by decide +kernel)) ggX4_since_X4_isMessage
set_option maxRecDepth 20000 in
theorem ggX4_since_X4_finds : GoodIn wsX4_since wsX4_finds := goodIn_r _ [18, 19, 1, 36, 37, 38, 39, 40, 41, 42, 43, 44, 45, 46, 47, 48, 49, 50, 51, 52, 53, 54] (by decide +kernel) (by decide +kernel)
set_option maxRecDepth 20000 in
theorem gX4_since_X4_finds : GoodIn wsX4_since (wsV RX4 77 RX4 yX4_finds wsX4_finds) := goodIn_app (goodIn_of _ (by decide +kernel)) ggX4_since_X4_finds
set_option maxRecDepth 20000 in
theorem ggX4_since_X4_isKnown : GoodIn wsX4_since wsX4_isKnown := goodIn_r _ [23, 24, 25, 26, 5, 27, 28, 29, 30, 31, 32, 33, 34, 35, 36, 37, 38, 39, 40, 41, 42, 43, 44, 45, 46, 47, 48, 49, 50, 51, 52, 53, 54] (by decide +kernel) (by decide +kernel)
set_option maxRecDepth 20000 in
theorem gX4_since_X4_isKnown : GoodIn wsX4_since (wsV RX4 69 RX4 yX4_isKnown wsX4_isKnown) := goodIn_app (goodIn_of _ (by decide +kernel)) ggX4_since_X4_isKnown
set_option maxRecDepth 20000 in
theorem ggX4_since_X4_sinceOf : GoodIn wsX4_since wsX4_sinceOf := goodIn_r _ [27, 28, 29, 30, 5, 31, 32, 33, 34, 35, 36, 37, 38, 39, 40, 41, 42, 43, 44, 45, 46, 47, 48, 49, 50, 51, 52, 53, 54] (by decide +kernel) (by decide +kernel)
set_option maxRecDepth 20000 in
theorem gX4_since_X4_sinceOf : GoodIn wsX4_since (wsV RX4 66 RX4 yX4_sinceOf wsX4_sinceOf) := goodIn_app (goodIn_of _ (by decide +kernel)) ggX4_since_X4_sinceOf
theorem dX4_since_0 : decode cX4_since 0 = .ok (.iload_n 1, 1) := by decide +kernel
theorem dX4_since_1 : decode cX4_since 1 = .ok (.invokestatic 73, 3) := by decide +kernel
theorem dX4_since_4 : decode cX4_since 4 = .ok (.ifCond .eq 10, 3) := by decide +kernel
theorem dX4_since_7 : decode cX4_since 7 = .ok (.iload_n 2, 1) := by decide +kernel
theorem dX4_since_8 : decode cX4_since 8 = .ok (.invokestatic 94, 3) := by decide +kernel
theorem dX4_since_11 : decode cX4_since 11 = .ok (.ifCond .ne 10, 3) := by decide +kernel
theorem dX4_since_14 : decode cX4_since 14 = .ok (.aload_n 0, 1) := by decide +kernel
theorem dX4_since_15 : decode cX4_since 15 = .ok (.ldc 48, 2) := by decide +kernel
theorem dX4_since_17 : decode cX4_since 17 = .ok (.invokevirtual 77, 3) := by decide +kernel
theorem dX4_since_20 : decode cX4_since 20 = .ok (.ireturn, 1) := by decide +kernel
theorem dX4_since_21 : decode cX4_since 21 = .ok (.aload_n 0, 1) := by decide +kernel
theorem dX4_since_22 : decode cX4_since 22 = .ok (.iload_n 1, 1) := by decide +kernel
theorem dX4_since_23 : decode cX4_since 23 = .ok (.iload_n 2, 1) := by decide +kernel
theorem dX4_since_24 : decode cX4_since 24 = .ok (.invokevirtual 69, 3) := by decide +kernel
theorem dX4_since_27 : decode cX4_since 27 = .ok (.ifCond .eq 12, 3) := by decide +kernel
theorem dX4_since_30 : decode cX4_since 30 = .ok (.aload_n 0, 1) := by decide +kernel
theorem dX4_since_31 : decode cX4_since 31 = .ok (.iload_n 1, 1) := by decide +kernel
theorem dX4_since_32 : decode cX4_since 32 = .ok (.iload_n 2, 1) := by decide +kernel
theorem dX4_since_33 : decode cX4_since 33 = .ok (.invokevirtual 66, 3) := by decide +kernel
theorem dX4_since_36 : decode cX4_since 36 = .ok (.goto 9, 3) := by decide +kernel
theorem dX4_since_39 : decode cX4_since 39 = .ok (.aload_n 0, 1) := by decide +kernel
theorem dX4_since_40 : decode cX4_since 40 = .ok (.ldc 97, 2) := by decide +kernel
theorem dX4_since_42 : decode cX4_since 42 = .ok (.invokevirtual 77, 3) := by decide +kernel
theorem dX4_since_45 : decode cX4_since 45 = .ok (.ireturn, 1) := by decide +kernel
set_option maxRecDepth 20000 in
theorem ggX4_plant_X4_isTree : GoodIn wsX4_plant wsX4_isTree := goodIn_r _ [5, 6, 7, 8, 4, 9] (by decide +kernel) (by decide +kernel)
set_option maxRecDepth 20000 in
theorem gX4_plant_X4_isTree : GoodIn wsX4_plant (va_wsS RX4 73 yX4_isTree wsX4_isTree) := goodIn_app (goodIn_of _ (by decide +kernel)) ggX4_plant_X4_isTree
set_option maxRecDepth 20000 in
theorem ggX4_plant_X4_isKind : GoodIn wsX4_plant wsX4_isKind := goodIn_r _ [12, 13, 7, 8, 4, 9] (by decide +kernel) (by decide +kernel)
set_option maxRecDepth 20000 in
theorem gX4_plant_X4_isKind : GoodIn wsX4_plant (va_wsS RX4 98 yX4_isKind wsX4_isKind) := goodIn_app (goodIn_of _ (by decide +kernel)) ggX4_plant_X4_isKind
set_option maxRecDepth 20000 in
theorem ggX4_plant_X4_finds : GoodIn wsX4_plant wsX4_finds := goodIn_r _ [17, 18, 1, 31, 32, 33, 34, 35, 36, 37, 38, 39, 40, 41, 42, 43, 44, 45, 46, 47, 48, 49] (by decide +kernel) (by decide +kernel)
set_option maxRecDepth 20000 in
theorem gX4_plant_X4_finds : GoodIn wsX4_plant (wsV RX4 77 RX4 yX4_finds wsX4_finds) := goodIn_app (goodIn_of _ (by decide +kernel)) ggX4_plant_X4_finds
set_option maxRecDepth 20000 in
theorem ggX4_plant_X4_its : GoodIn wsX4_plant wsX4_its := goodIn_r _ [22, 23, 24, 25, 4, 26, 31, 32, 33, 34, 35, 36, 37, 38, 39, 40, 41, 42, 43, 44, 45, 46, 47, 48, 49] (by decide +kernel) (by decide +kernel)
set_option maxRecDepth 20000 in
theorem gX4_plant_X4_its : GoodIn wsX4_plant (wsV RX4 63 RX4 yX4_its wsX4_its) := goodIn_app (goodIn_of _ (by decide +kernel)) ggX4_plant_X4_its
set_option maxRecDepth 20000 in
theorem ggX4_plant_X4_sets : GoodIn wsX4_plant wsX4_sets := goodIn_r _ [30, 23, 24, 25, 4, 26, 31, 32, 33, 34, 35, 36, 37, 38, 39, 40, 41, 42, 43, 44, 45, 46, 47, 48, 49] (by decide +kernel) (by decide +kernel)
set_option maxRecDepth 20000 in
theorem gX4_plant_X4_sets : GoodIn wsX4_plant (wsV RX4 44 RX4 yX4_sets wsX4_sets) := goodIn_app (goodIn_of _ (by decide +kernel)) ggX4_plant_X4_sets
theorem dX4_plant_0 : decode cX4_plant 0 = .ok (.iload_n 1, 1) := by decide +kernel
theorem dX4_plant_1 : decode cX4_plant 1 = .ok (.invokestatic 73, 3) := by decide +kernel
theorem dX4_plant_4 : decode cX4_plant 4 = .ok (.ifCond .eq 10, 3) := by decide +kernel
theorem dX4_plant_7 : decode cX4_plant 7 = .ok (.iload_n 2, 1) := by decide +kernel
theorem dX4_plant_8 : decode cX4_plant 8 = .ok (.invokestatic 98, 3) := by decide +kernel
theorem dX4_plant_11 : decode cX4_plant 11 = .ok (.ifCond .ne 10, 3) := by decide +kernel
theorem dX4_plant_14 : decode cX4_plant 14 = .ok (.aload_n 0, 1) := by decide +kernel
theorem dX4_plant_15 : decode cX4_plant 15 = .ok (.ldc 48, 2) := by decide +kernel
theorem dX4_plant_17 : decode cX4_plant 17 = .ok (.invokevirtual 77, 3) := by decide +kernel
theorem dX4_plant_20 : decode cX4_plant 20 = .ok (.ireturn, 1) := by decide +kernel
theorem dX4_plant_21 : decode cX4_plant 21 = .ok (.aload_n 0, 1) := by decide +kernel
theorem dX4_plant_22 : decode cX4_plant 22 = .ok (.iload_n 1, 1) := by decide +kernel
theorem dX4_plant_23 : decode cX4_plant 23 = .ok (.iconst 0, 1) := by decide +kernel
theorem dX4_plant_24 : decode cX4_plant 24 = .ok (.invokevirtual 63, 3) := by decide +kernel
theorem dX4_plant_27 : decode cX4_plant 27 = .ok (.istore_n 3, 1) := by decide +kernel
theorem dX4_plant_28 : decode cX4_plant 28 = .ok (.aload_n 0, 1) := by decide +kernel
theorem dX4_plant_29 : decode cX4_plant 29 = .ok (.iload_n 1, 1) := by decide +kernel
theorem dX4_plant_30 : decode cX4_plant 30 = .ok (.iload_n 2, 1) := by decide +kernel
theorem dX4_plant_31 : decode cX4_plant 31 = .ok (.iconst 0, 1) := by decide +kernel
theorem dX4_plant_32 : decode cX4_plant 32 = .ok (.invokevirtual 44, 3) := by decide +kernel
theorem dX4_plant_35 : decode cX4_plant 35 = .ok (.iload_n 3, 1) := by decide +kernel
theorem dX4_plant_36 : decode cX4_plant 36 = .ok (.ireturn, 1) := by decide +kernel
set_option maxRecDepth 20000 in
theorem ggX4_turn_X4_isTree : GoodIn wsX4_turn wsX4_isTree := goodIn_r _ [5, 6, 7, 8, 4, 9] (by decide +kernel) (by decide +kernel)
set_option maxRecDepth 20000 in
theorem gX4_turn_X4_isTree : GoodIn wsX4_turn (va_wsS RX4 73 yX4_isTree wsX4_isTree) := goodIn_app (goodIn_of _ (by decide +kernel)) ggX4_turn_X4_isTree
set_option maxRecDepth 20000 in
theorem ggX4_turn_X4_isKind : GoodIn wsX4_turn wsX4_isKind := goodIn_r _ [12, 13, 7, 8, 4, 9] (by decide +kernel) (by decide +kernel)
set_option maxRecDepth 20000 in
theorem gX4_turn_X4_isKind : GoodIn wsX4_turn (va_wsS RX4 98 yX4_isKind wsX4_isKind) := goodIn_app (goodIn_of _ (by decide +kernel)) ggX4_turn_X4_isKind
set_option maxRecDepth 20000 in
theorem ggX4_turn_X4_spotOf : GoodIn wsX4_turn wsX4_spotOf := goodIn_r _ [16] (by decide +kernel) (by decide +kernel)
set_option maxRecDepth 20000 in
theorem gX4_turn_X4_spotOf : GoodIn wsX4_turn (va_wsS RX4 59 yX4_spotOf wsX4_spotOf) := goodIn_app (goodIn_of _ (by decide +kernel)) ggX4_turn_X4_spotOf
set_option maxRecDepth 20000 in
theorem ggX4_turn_X4_becomes : GoodIn wsX4_turn wsX4_becomes := goodIn_r _ [20, 21, 27, 28, 29, 30, 31, 32, 33, 34, 35, 36, 37, 38, 39, 40, 41, 42, 43, 44, 45] (by decide +kernel) (by decide +kernel)
set_option maxRecDepth 20000 in
theorem gX4_turn_X4_becomes : GoodIn wsX4_turn (wsV RX4 101 RX4 yX4_becomes wsX4_becomes) := goodIn_app (goodIn_of _ (by decide +kernel)) ggX4_turn_X4_becomes
set_option maxRecDepth 20000 in
theorem ggX4_turn_X4_finds : GoodIn wsX4_turn wsX4_finds := goodIn_r _ [25, 26, 1, 27, 28, 29, 30, 31, 32, 33, 34, 35, 36, 37, 38, 39, 40, 41, 42, 43, 44, 45] (by decide +kernel) (by decide +kernel)
set_option maxRecDepth 20000 in
theorem gX4_turn_X4_finds : GoodIn wsX4_turn (wsV RX4 77 RX4 yX4_finds wsX4_finds) := goodIn_app (goodIn_of _ (by decide +kernel)) ggX4_turn_X4_finds
theorem dX4_turn_0 : decode cX4_turn 0 = .ok (.iload_n 1, 1) := by decide +kernel
theorem dX4_turn_1 : decode cX4_turn 1 = .ok (.invokestatic 73, 3) := by decide +kernel
theorem dX4_turn_4 : decode cX4_turn 4 = .ok (.ifCond .eq 23, 3) := by decide +kernel
theorem dX4_turn_7 : decode cX4_turn 7 = .ok (.iload_n 2, 1) := by decide +kernel
theorem dX4_turn_8 : decode cX4_turn 8 = .ok (.invokestatic 98, 3) := by decide +kernel
theorem dX4_turn_11 : decode cX4_turn 11 = .ok (.ifCond .eq 16, 3) := by decide +kernel
theorem dX4_turn_14 : decode cX4_turn 14 = .ok (.aload_n 0, 1) := by decide +kernel
theorem dX4_turn_15 : decode cX4_turn 15 = .ok (.iload_n 1, 1) := by decide +kernel
theorem dX4_turn_16 : decode cX4_turn 16 = .ok (.iconst 0, 1) := by decide +kernel
theorem dX4_turn_17 : decode cX4_turn 17 = .ok (.invokestatic 59, 3) := by decide +kernel
theorem dX4_turn_20 : decode cX4_turn 20 = .ok (.iload_n 2, 1) := by decide +kernel
theorem dX4_turn_21 : decode cX4_turn 21 = .ok (.invokevirtual 101, 3) := by decide +kernel
theorem dX4_turn_24 : decode cX4_turn 24 = .ok (.goto 9, 3) := by decide +kernel
theorem dX4_turn_27 : decode cX4_turn 27 = .ok (.aload_n 0, 1) := by decide +kernel
theorem dX4_turn_28 : decode cX4_turn 28 = .ok (.ldc 48, 2) := by decide +kernel
theorem dX4_turn_30 : decode cX4_turn 30 = .ok (.invokevirtual 77, 3) := by decide +kernel
theorem dX4_turn_33 : decode cX4_turn 33 = .ok (.ireturn, 1) := by decide +kernel
set_option maxRecDepth 20000 in
theorem ggX4_age_X4_isTree : GoodIn wsX4_age wsX4_isTree := goodIn_r _ [6, 7, 8, 9, 5, 10] (by decide +kernel) (by decide +kernel)
set_option maxRecDepth 20000 in
theorem gX4_age_X4_isTree : GoodIn wsX4_age (va_wsS RX4 73 yX4_isTree wsX4_isTree) := goodIn_app (goodIn_of _ (by decide +kernel)) ggX4_age_X4_isTree
set_option maxRecDepth 20000 in
theorem ggX4_age_X4_in : GoodIn wsX4_age wsX4_in := goodIn_r _ [10] (by decide +kernel) (by decide +kernel)
set_option maxRecDepth 20000 in
theorem gX4_age_X4_in : GoodIn wsX4_age (va_wsS RX4 51 yX4_in wsX4_in) := goodIn_app (goodIn_of _ (by decide +kernel)) ggX4_age_X4_in
set_option maxRecDepth 20000 in
theorem ggX4_age_X4_spotOf : GoodIn wsX4_age wsX4_spotOf := goodIn_r _ [13] (by decide +kernel) (by decide +kernel)
set_option maxRecDepth 20000 in
theorem gX4_age_X4_spotOf : GoodIn wsX4_age (va_wsS RX4 59 yX4_spotOf wsX4_spotOf) := goodIn_app (goodIn_of _ (by decide +kernel)) ggX4_age_X4_spotOf
set_option maxRecDepth 20000 in
theorem ggX4_age_X4_becomes : GoodIn wsX4_age wsX4_becomes := goodIn_r _ [17, 18, 24, 25, 26, 27, 28, 29, 30, 31, 32, 33, 34, 35, 36, 37, 38, 39, 40, 41, 42] (by decide +kernel) (by decide +kernel)
set_option maxRecDepth 20000 in
theorem gX4_age_X4_becomes : GoodIn wsX4_age (wsV RX4 101 RX4 yX4_becomes wsX4_becomes) := goodIn_app (goodIn_of _ (by decide +kernel)) ggX4_age_X4_becomes
set_option maxRecDepth 20000 in
theorem ggX4_age_X4_finds : GoodIn wsX4_age wsX4_finds := goodIn_r _ [22, 23, 2, 24, 25, 26, 27, 28, 29, 30, 31, 32, 33, 34, 35, 36, 37, 38, 39, 40, 41, 42] (by decide +kernel) (by decide +kernel)
set_option maxRecDepth 20000 in
theorem gX4_age_X4_finds : GoodIn wsX4_age (wsV RX4 77 RX4 yX4_finds wsX4_finds) := goodIn_app (goodIn_of _ (by decide +kernel)) ggX4_age_X4_finds
theorem dX4_age_0 : decode cX4_age 0 = .ok (.iload_n 1, 1) := by decide +kernel
theorem dX4_age_1 : decode cX4_age 1 = .ok (.invokestatic 73, 3) := by decide +kernel
theorem dX4_age_4 : decode cX4_age 4 = .ok (.ifCond .eq 28, 3) := by decide +kernel
theorem dX4_age_7 : decode cX4_age 7 = .ok (.iload_n 2, 1) := by decide +kernel
theorem dX4_age_8 : decode cX4_age 8 = .ok (.i2l, 1) := by decide +kernel
theorem dX4_age_9 : decode cX4_age 9 = .ok (.lconst 0, 1) := by decide +kernel
theorem dX4_age_10 : decode cX4_age 10 = .ok (.ldc2_w 104, 3) := by decide +kernel
theorem dX4_age_13 : decode cX4_age 13 = .ok (.invokestatic 51, 3) := by decide +kernel
theorem dX4_age_16 : decode cX4_age 16 = .ok (.ifCond .eq 16, 3) := by decide +kernel
theorem dX4_age_19 : decode cX4_age 19 = .ok (.aload_n 0, 1) := by decide +kernel
theorem dX4_age_20 : decode cX4_age 20 = .ok (.iload_n 1, 1) := by decide +kernel
theorem dX4_age_21 : decode cX4_age 21 = .ok (.iconst 1, 1) := by decide +kernel
theorem dX4_age_22 : decode cX4_age 22 = .ok (.invokestatic 59, 3) := by decide +kernel
theorem dX4_age_25 : decode cX4_age 25 = .ok (.iload_n 2, 1) := by decide +kernel
theorem dX4_age_26 : decode cX4_age 26 = .ok (.invokevirtual 101, 3) := by decide +kernel
theorem dX4_age_29 : decode cX4_age 29 = .ok (.goto 9, 3) := by decide +kernel
theorem dX4_age_32 : decode cX4_age 32 = .ok (.aload_n 0, 1) := by decide +kernel
theorem dX4_age_33 : decode cX4_age 33 = .ok (.ldc 48, 2) := by decide +kernel
theorem dX4_age_35 : decode cX4_age 35 = .ok (.invokevirtual 77, 3) := by decide +kernel
theorem dX4_age_38 : decode cX4_age 38 = .ok (.ireturn, 1) := by decide +kernel
theorem dX4_isUnder_0 : decode cX4_isUnder 0 = .ok (.iload_n 1, 1) := by decide +kernel
theorem dX4_isUnder_1 : decode cX4_isUnder 1 = .ok (.ifCond .eq 20, 3) := by decide +kernel
theorem dX4_isUnder_4 : decode cX4_isUnder 4 = .ok (.iload_n 0, 1) := by decide +kernel
theorem dX4_isUnder_5 : decode cX4_isUnder 5 = .ok (.iload_n 1, 1) := by decide +kernel
theorem dX4_isUnder_6 : decode cX4_isUnder 6 = .ok (.if_icmp .eq 15, 3) := by decide +kernel
theorem dX4_isUnder_9 : decode cX4_isUnder 9 = .ok (.iload_n 0, 1) := by decide +kernel
theorem dX4_isUnder_10 : decode cX4_isUnder 10 = .ok (.iconst 3, 1) := by decide +kernel
theorem dX4_isUnder_11 : decode cX4_isUnder 11 = .ok (.if_icmp .le 14, 3) := by decide +kernel
theorem dX4_isUnder_14 : decode cX4_isUnder 14 = .ok (.iload_n 0, 1) := by decide +kernel
theorem dX4_isUnder_15 : decode cX4_isUnder 15 = .ok (.iconst 3, 1) := by decide +kernel
theorem dX4_isUnder_16 : decode cX4_isUnder 16 = .ok (.isub, 1) := by decide +kernel
theorem dX4_isUnder_17 : decode cX4_isUnder 17 = .ok (.iload_n 1, 1) := by decide +kernel
theorem dX4_isUnder_18 : decode cX4_isUnder 18 = .ok (.if_icmp .ne 7, 3) := by decide +kernel
theorem dX4_isUnder_21 : decode cX4_isUnder 21 = .ok (.iconst 1, 1) := by decide +kernel
theorem dX4_isUnder_22 : decode cX4_isUnder 22 = .ok (.goto 4, 3) := by decide +kernel
theorem dX4_isUnder_25 : decode cX4_isUnder 25 = .ok (.iconst 0, 1) := by decide +kernel
theorem dX4_isUnder_26 : decode cX4_isUnder 26 = .ok (.ireturn, 1) := by decide +kernel
set_option maxRecDepth 20000 in
theorem ggX4_as_X4_isTree : GoodIn wsX4_as wsX4_isTree := goodIn_r _ [6, 7, 8, 9, 5, 10] (by decide +kernel) (by decide +kernel)
set_option maxRecDepth 20000 in
theorem gX4_as_X4_isTree : GoodIn wsX4_as (va_wsS RX4 73 yX4_isTree wsX4_isTree) := goodIn_app (goodIn_of _ (by decide +kernel)) ggX4_as_X4_isTree
set_option maxRecDepth 20000 in
theorem ggX4_as_X4_isKind : GoodIn wsX4_as wsX4_isKind := goodIn_r _ [13, 14, 8, 9, 5, 10] (by decide +kernel) (by decide +kernel)
set_option maxRecDepth 20000 in
theorem gX4_as_X4_isKind : GoodIn wsX4_as (va_wsS RX4 98 yX4_isKind wsX4_isKind) := goodIn_app (goodIn_of _ (by decide +kernel)) ggX4_as_X4_isKind
set_option maxRecDepth 20000 in
theorem ggX4_as_X4_finds : GoodIn wsX4_as wsX4_finds := goodIn_r _ [18, 19, 1, 31, 32, 33, 34, 35, 36, 37, 38, 39, 40, 41, 42, 43, 44, 45, 46, 47, 48, 49] (by decide +kernel) (by decide +kernel)
set_option maxRecDepth 20000 in
theorem gX4_as_X4_finds : GoodIn wsX4_as (wsV RX4 77 RX4 yX4_finds wsX4_finds) := goodIn_app (goodIn_of _ (by decide +kernel)) ggX4_as_X4_finds
set_option maxRecDepth 20000 in
theorem ggX4_as_X4_its : GoodIn wsX4_as wsX4_its := goodIn_r _ [23, 24, 25, 26, 5, 27, 31, 32, 33, 34, 35, 36, 37, 38, 39, 40, 41, 42, 43, 44, 45, 46, 47, 48, 49] (by decide +kernel) (by decide +kernel)
set_option maxRecDepth 20000 in
theorem gX4_as_X4_its : GoodIn wsX4_as (wsV RX4 63 RX4 yX4_its wsX4_its) := goodIn_app (goodIn_of _ (by decide +kernel)) ggX4_as_X4_its
set_option maxRecDepth 20000 in
theorem ggX4_as_X4_isUnder : GoodIn wsX4_as wsX4_isUnder := goodIn_r _ [30] (by decide +kernel) (by decide +kernel)
set_option maxRecDepth 20000 in
theorem gX4_as_X4_isUnder : GoodIn wsX4_as (va_wsS RX4 106 yX4_isUnder wsX4_isUnder) := goodIn_app (goodIn_of _ (by decide +kernel)) ggX4_as_X4_isUnder
theorem dX4_as_0 : decode cX4_as 0 = .ok (.iload_n 1, 1) := by decide +kernel
theorem dX4_as_1 : decode cX4_as 1 = .ok (.invokestatic 73, 3) := by decide +kernel
theorem dX4_as_4 : decode cX4_as 4 = .ok (.ifCond .eq 10, 3) := by decide +kernel
theorem dX4_as_7 : decode cX4_as 7 = .ok (.iload_n 2, 1) := by decide +kernel
theorem dX4_as_8 : decode cX4_as 8 = .ok (.invokestatic 98, 3) := by decide +kernel
theorem dX4_as_11 : decode cX4_as 11 = .ok (.ifCond .ne 10, 3) := by decide +kernel
theorem dX4_as_14 : decode cX4_as 14 = .ok (.aload_n 0, 1) := by decide +kernel
theorem dX4_as_15 : decode cX4_as 15 = .ok (.ldc 48, 2) := by decide +kernel
theorem dX4_as_17 : decode cX4_as 17 = .ok (.invokevirtual 77, 3) := by decide +kernel
theorem dX4_as_20 : decode cX4_as 20 = .ok (.ireturn, 1) := by decide +kernel
theorem dX4_as_21 : decode cX4_as 21 = .ok (.aload_n 0, 1) := by decide +kernel
theorem dX4_as_22 : decode cX4_as 22 = .ok (.iload_n 1, 1) := by decide +kernel
theorem dX4_as_23 : decode cX4_as 23 = .ok (.iconst 0, 1) := by decide +kernel
theorem dX4_as_24 : decode cX4_as 24 = .ok (.invokevirtual 63, 3) := by decide +kernel
theorem dX4_as_27 : decode cX4_as 27 = .ok (.iload_n 2, 1) := by decide +kernel
theorem dX4_as_28 : decode cX4_as 28 = .ok (.invokestatic 106, 3) := by decide +kernel
theorem dX4_as_31 : decode cX4_as 31 = .ok (.ifCond .eq 12, 3) := by decide +kernel
theorem dX4_as_34 : decode cX4_as 34 = .ok (.aload_n 0, 1) := by decide +kernel
theorem dX4_as_35 : decode cX4_as 35 = .ok (.iload_n 1, 1) := by decide +kernel
theorem dX4_as_36 : decode cX4_as 36 = .ok (.iconst 1, 1) := by decide +kernel
theorem dX4_as_37 : decode cX4_as 37 = .ok (.invokevirtual 63, 3) := by decide +kernel
theorem dX4_as_40 : decode cX4_as 40 = .ok (.goto 9, 3) := by decide +kernel
theorem dX4_as_43 : decode cX4_as 43 = .ok (.aload_n 0, 1) := by decide +kernel
theorem dX4_as_44 : decode cX4_as 44 = .ok (.ldc 109, 2) := by decide +kernel
theorem dX4_as_46 : decode cX4_as 46 = .ok (.invokevirtual 77, 3) := by decide +kernel
theorem dX4_as_49 : decode cX4_as 49 = .ok (.ireturn, 1) := by decide +kernel
theorem dX4_isMet_0 : decode cX4_isMet 0 = .ok (.aload_n 0, 1) := by decide +kernel
theorem dX4_isMet_1 : decode cX4_isMet 1 = .ok (.getfield 7, 3) := by decide +kernel
theorem dX4_isMet_4 : decode cX4_isMet 4 = .ok (.iconst 1, 1) := by decide +kernel
theorem dX4_isMet_5 : decode cX4_isMet 5 = .ok (.iaload, 1) := by decide +kernel
theorem dX4_isMet_6 : decode cX4_isMet 6 = .ok (.iload_n 1, 1) := by decide +kernel
theorem dX4_isMet_7 : decode cX4_isMet 7 = .ok (.ishr, 1) := by decide +kernel
theorem dX4_isMet_8 : decode cX4_isMet 8 = .ok (.iconst 1, 1) := by decide +kernel
theorem dX4_isMet_9 : decode cX4_isMet 9 = .ok (.iand, 1) := by decide +kernel
theorem dX4_isMet_10 : decode cX4_isMet 10 = .ok (.iconst 1, 1) := by decide +kernel
theorem dX4_isMet_11 : decode cX4_isMet 11 = .ok (.if_icmp .ne 7, 3) := by decide +kernel
theorem dX4_isMet_14 : decode cX4_isMet 14 = .ok (.iconst 1, 1) := by decide +kernel
theorem dX4_isMet_15 : decode cX4_isMet 15 = .ok (.goto 4, 3) := by decide +kernel
theorem dX4_isMet_18 : decode cX4_isMet 18 = .ok (.iconst 0, 1) := by decide +kernel
theorem dX4_isMet_19 : decode cX4_isMet 19 = .ok (.ireturn, 1) := by decide +kernel
set_option maxRecDepth 20000 in
theorem ggX4_meets_X4_isMet : GoodIn wsX4_meets wsX4_isMet := goodIn_r _ [6, 1, 7, 8, 9, 10, 11, 12, 13, 14, 15, 16, 17, 18, 19, 20, 21, 22, 23, 24, 25] (by decide +kernel) (by decide +kernel)
set_option maxRecDepth 20000 in
theorem gX4_meets_X4_isMet : GoodIn wsX4_meets (wsV RX4 110 RX4 yX4_isMet wsX4_isMet) := goodIn_app (goodIn_of _ (by decide +kernel)) ggX4_meets_X4_isMet
theorem dX4_meets_0 : decode cX4_meets 0 = .ok (.aload_n 0, 1) := by decide +kernel
theorem dX4_meets_1 : decode cX4_meets 1 = .ok (.iload_n 1, 1) := by decide +kernel
theorem dX4_meets_2 : decode cX4_meets 2 = .ok (.invokevirtual 110, 3) := by decide +kernel
theorem dX4_meets_5 : decode cX4_meets 5 = .ok (.ifCond .eq 7, 3) := by decide +kernel
theorem dX4_meets_8 : decode cX4_meets 8 = .ok (.iconst 1, 1) := by decide +kernel
theorem dX4_meets_9 : decode cX4_meets 9 = .ok (.goto 4, 3) := by decide +kernel
theorem dX4_meets_12 : decode cX4_meets 12 = .ok (.iconst 0, 1) := by decide +kernel
theorem dX4_meets_13 : decode cX4_meets 13 = .ok (.istore_n 3, 1) := by decide +kernel
theorem dX4_meets_14 : decode cX4_meets 14 = .ok (.aload_n 0, 1) := by decide +kernel
theorem dX4_meets_15 : decode cX4_meets 15 = .ok (.getfield 7, 3) := by decide +kernel
theorem dX4_meets_18 : decode cX4_meets 18 = .ok (.iconst 1, 1) := by decide +kernel
theorem dX4_meets_19 : decode cX4_meets 19 = .ok (.iload_n 2, 1) := by decide +kernel
theorem dX4_meets_20 : decode cX4_meets 20 = .ok (.ifCond .eq 16, 3) := by decide +kernel
theorem dX4_meets_23 : decode cX4_meets 23 = .ok (.aload_n 0, 1) := by decide +kernel
theorem dX4_meets_24 : decode cX4_meets 24 = .ok (.getfield 7, 3) := by decide +kernel
theorem dX4_meets_27 : decode cX4_meets 27 = .ok (.iconst 1, 1) := by decide +kernel
theorem dX4_meets_28 : decode cX4_meets 28 = .ok (.iaload, 1) := by decide +kernel
theorem dX4_meets_29 : decode cX4_meets 29 = .ok (.iconst 1, 1) := by decide +kernel
theorem dX4_meets_30 : decode cX4_meets 30 = .ok (.iload_n 1, 1) := by decide +kernel
theorem dX4_meets_31 : decode cX4_meets 31 = .ok (.ishl, 1) := by decide +kernel
theorem dX4_meets_32 : decode cX4_meets 32 = .ok (.ior, 1) := by decide +kernel
theorem dX4_meets_33 : decode cX4_meets 33 = .ok (.goto 15, 3) := by decide +kernel
theorem dX4_meets_36 : decode cX4_meets 36 = .ok (.aload_n 0, 1) := by decide +kernel
theorem dX4_meets_37 : decode cX4_meets 37 = .ok (.getfield 7, 3) := by decide +kernel
theorem dX4_meets_40 : decode cX4_meets 40 = .ok (.iconst 1, 1) := by decide +kernel
theorem dX4_meets_41 : decode cX4_meets 41 = .ok (.iaload, 1) := by decide +kernel
theorem dX4_meets_42 : decode cX4_meets 42 = .ok (.iconst 1, 1) := by decide +kernel
theorem dX4_meets_43 : decode cX4_meets 43 = .ok (.iload_n 1, 1) := by decide +kernel
theorem dX4_meets_44 : decode cX4_meets 44 = .ok (.ishl, 1) := by decide +kernel
theorem dX4_meets_45 : decode cX4_meets 45 = .ok (.iconst (-1), 1) := by decide +kernel
theorem dX4_meets_46 : decode cX4_meets 46 = .ok (.ixor, 1) := by decide +kernel
theorem dX4_meets_47 : decode cX4_meets 47 = .ok (.iand, 1) := by decide +kernel
theorem dX4_meets_48 : decode cX4_meets 48 = .ok (.iastore, 1) := by decide +kernel
theorem dX4_meets_49 : decode cX4_meets 49 = .ok (.iload_n 3, 1) := by decide +kernel
theorem dX4_meets_50 : decode cX4_meets 50 = .ok (.ireturn, 1) := by decide +kernel
set_option maxRecDepth 20000 in
theorem ggX4_meet_X4_in : GoodIn wsX4_meet wsX4_in := goodIn_r _ [6] (by decide +kernel) (by decide +kernel)
set_option maxRecDepth 20000 in
theorem gX4_meet_X4_in : GoodIn wsX4_meet (va_wsS RX4 51 yX4_in wsX4_in) := goodIn_app (goodIn_of _ (by decide +kernel)) ggX4_meet_X4_in
set_option maxRecDepth 20000 in
theorem ggX4_meet_X4_meets : GoodIn wsX4_meet wsX4_meets := goodIn_r _ [10, 11, 12, 13, 14, 5, 15, 21, 22, 23, 24, 25, 26, 27, 28, 29, 30, 31, 32, 33, 34, 35, 36, 37, 38, 39] (by decide +kernel) (by decide +kernel)
set_option maxRecDepth 20000 in
theorem gX4_meet_X4_meets : GoodIn wsX4_meet (wsV RX4 113 RX4 yX4_meets wsX4_meets) := goodIn_app (goodIn_of _ (by decide +kernel)) ggX4_meet_X4_meets
set_option maxRecDepth 20000 in
theorem ggX4_meet_X4_finds : GoodIn wsX4_meet wsX4_finds := goodIn_r _ [19, 20, 2, 21, 22, 23, 24, 25, 26, 27, 28, 29, 30, 31, 32, 33, 34, 35, 36, 37, 38, 39] (by decide +kernel) (by decide +kernel)
set_option maxRecDepth 20000 in
theorem gX4_meet_X4_finds : GoodIn wsX4_meet (wsV RX4 77 RX4 yX4_finds wsX4_finds) := goodIn_app (goodIn_of _ (by decide +kernel)) ggX4_meet_X4_finds
theorem dX4_meet_0 : decode cX4_meet 0 = .ok (.iload_n 1, 1) := by decide +kernel
theorem dX4_meet_1 : decode cX4_meet 1 = .ok (.i2l, 1) := by decide +kernel
theorem dX4_meet_2 : decode cX4_meet 2 = .ok (.lconst 0, 1) := by decide +kernel
theorem dX4_meet_3 : decode cX4_meet 3 = .ok (.ldc2_w 57, 3) := by decide +kernel
theorem dX4_meet_6 : decode cX4_meet 6 = .ok (.invokestatic 51, 3) := by decide +kernel
theorem dX4_meet_9 : decode cX4_meet 9 = .ok (.ifCond .eq 31, 3) := by decide +kernel
theorem dX4_meet_12 : decode cX4_meet 12 = .ok (.iload_n 2, 1) := by decide +kernel
theorem dX4_meet_13 : decode cX4_meet 13 = .ok (.i2l, 1) := by decide +kernel
theorem dX4_meet_14 : decode cX4_meet 14 = .ok (.lconst 0, 1) := by decide +kernel
theorem dX4_meet_15 : decode cX4_meet 15 = .ok (.lconst 1, 1) := by decide +kernel
theorem dX4_meet_16 : decode cX4_meet 16 = .ok (.invokestatic 51, 3) := by decide +kernel
theorem dX4_meet_19 : decode cX4_meet 19 = .ok (.ifCond .eq 21, 3) := by decide +kernel
theorem dX4_meet_22 : decode cX4_meet 22 = .ok (.aload_n 0, 1) := by decide +kernel
theorem dX4_meet_23 : decode cX4_meet 23 = .ok (.iload_n 1, 1) := by decide +kernel
theorem dX4_meet_24 : decode cX4_meet 24 = .ok (.iload_n 2, 1) := by decide +kernel
theorem dX4_meet_25 : decode cX4_meet 25 = .ok (.iconst 1, 1) := by decide +kernel
theorem dX4_meet_26 : decode cX4_meet 26 = .ok (.if_icmp .ne 7, 3) := by decide +kernel
theorem dX4_meet_29 : decode cX4_meet 29 = .ok (.iconst 1, 1) := by decide +kernel
theorem dX4_meet_30 : decode cX4_meet 30 = .ok (.goto 4, 3) := by decide +kernel
theorem dX4_meet_33 : decode cX4_meet 33 = .ok (.iconst 0, 1) := by decide +kernel
theorem dX4_meet_34 : decode cX4_meet 34 = .ok (.invokevirtual 113, 3) := by decide +kernel
theorem dX4_meet_37 : decode cX4_meet 37 = .ok (.goto 9, 3) := by decide +kernel
theorem dX4_meet_40 : decode cX4_meet 40 = .ok (.aload_n 0, 1) := by decide +kernel
theorem dX4_meet_41 : decode cX4_meet 41 = .ok (.ldc 48, 2) := by decide +kernel
theorem dX4_meet_43 : decode cX4_meet 43 = .ok (.invokevirtual 77, 3) := by decide +kernel
theorem dX4_meet_46 : decode cX4_meet 46 = .ok (.ireturn, 1) := by decide +kernel
set_option maxRecDepth 20000 in
theorem ggX4_knowing_X4_isKnown : GoodIn wsX4_knowing wsX4_isKnown := goodIn_r _ [5, 6, 7, 8, 4, 9, 10, 11, 12, 13, 14, 15, 16, 17, 18, 19, 20, 21, 22, 23, 24, 25, 26, 27, 28, 29, 30, 31, 32, 33, 34, 35, 36] (by decide +kernel) (by decide +kernel)
set_option maxRecDepth 20000 in
theorem gX4_knowing_X4_isKnown : GoodIn wsX4_knowing (wsV RX4 69 RX4 yX4_isKnown wsX4_isKnown) := goodIn_app (goodIn_of _ (by decide +kernel)) ggX4_knowing_X4_isKnown
theorem dX4_knowing_0 : decode cX4_knowing 0 = .ok (.iconst 0, 1) := by decide +kernel
theorem dX4_knowing_1 : decode cX4_knowing 1 = .ok (.istore_n 2, 1) := by decide +kernel
theorem dX4_knowing_2 : decode cX4_knowing 2 = .ok (.iconst 0, 1) := by decide +kernel
theorem dX4_knowing_3 : decode cX4_knowing 3 = .ok (.istore_n 3, 1) := by decide +kernel
theorem dX4_knowing_4 : decode cX4_knowing 4 = .ok (.iload_n 3, 1) := by decide +kernel
theorem dX4_knowing_5 : decode cX4_knowing 5 = .ok (.bipush 12, 2) := by decide +kernel
theorem dX4_knowing_7 : decode cX4_knowing 7 = .ok (.if_icmp .ge 26, 3) := by decide +kernel
theorem dX4_knowing_10 : decode cX4_knowing 10 = .ok (.iload_n 2, 1) := by decide +kernel
theorem dX4_knowing_11 : decode cX4_knowing 11 = .ok (.aload_n 0, 1) := by decide +kernel
theorem dX4_knowing_12 : decode cX4_knowing 12 = .ok (.iload_n 3, 1) := by decide +kernel
theorem dX4_knowing_13 : decode cX4_knowing 13 = .ok (.iload_n 1, 1) := by decide +kernel
theorem dX4_knowing_14 : decode cX4_knowing 14 = .ok (.invokevirtual 69, 3) := by decide +kernel
theorem dX4_knowing_17 : decode cX4_knowing 17 = .ok (.ifCond .eq 7, 3) := by decide +kernel
theorem dX4_knowing_20 : decode cX4_knowing 20 = .ok (.iconst 1, 1) := by decide +kernel
theorem dX4_knowing_21 : decode cX4_knowing 21 = .ok (.goto 4, 3) := by decide +kernel
theorem dX4_knowing_24 : decode cX4_knowing 24 = .ok (.iconst 0, 1) := by decide +kernel
theorem dX4_knowing_25 : decode cX4_knowing 25 = .ok (.iadd, 1) := by decide +kernel
theorem dX4_knowing_26 : decode cX4_knowing 26 = .ok (.istore_n 2, 1) := by decide +kernel
theorem dX4_knowing_27 : decode cX4_knowing 27 = .ok (.iinc 3 1, 3) := by decide +kernel
theorem dX4_knowing_30 : decode cX4_knowing 30 = .ok (.goto (-26), 3) := by decide +kernel
theorem dX4_knowing_33 : decode cX4_knowing 33 = .ok (.iload_n 2, 1) := by decide +kernel
theorem dX4_knowing_34 : decode cX4_knowing 34 = .ok (.ireturn, 1) := by decide +kernel
set_option maxRecDepth 20000 in
theorem ggX4_tell_X4_isTree : GoodIn wsX4_tell wsX4_isTree := goodIn_r _ [7, 8, 9, 10, 6, 11] (by decide +kernel) (by decide +kernel)
set_option maxRecDepth 20000 in
theorem gX4_tell_X4_isTree : GoodIn wsX4_tell (va_wsS RX4 73 yX4_isTree wsX4_isTree) := goodIn_app (goodIn_of _ (by decide +kernel)) ggX4_tell_X4_isTree
set_option maxRecDepth 20000 in
theorem ggX4_tell_X4_isMessage : GoodIn wsX4_tell wsX4_isMessage := goodIn_r _ [14, 15, 9, 10, 6, 11] (by decide +kernel) (by decide +kernel)
set_option maxRecDepth 20000 in
theorem gX4_tell_X4_isMessage : GoodIn wsX4_tell (va_wsS RX4 94 yX4_isMessage wsX4_isMessage) := goodIn_app (goodIn_of _ (by decide +kernel)) ggX4_tell_X4_isMessage
set_option maxRecDepth 20000 in
theorem ggX4_tell_X4_finds : GoodIn wsX4_tell wsX4_finds := goodIn_r _ [19, 20, 1, 40, 41, 42, 43, 44, 45, 46, 47, 48, 49, 50, 51, 52, 53, 54, 55, 56, 57, 58] (by decide +kernel) (by decide +kernel)
set_option maxRecDepth 20000 in
theorem gX4_tell_X4_finds : GoodIn wsX4_tell (wsV RX4 77 RX4 yX4_finds wsX4_finds) := goodIn_app (goodIn_of _ (by decide +kernel)) ggX4_tell_X4_finds
set_option maxRecDepth 20000 in
theorem ggX4_tell_X4_isKnown : GoodIn wsX4_tell wsX4_isKnown := goodIn_r _ [24, 25, 26, 27, 6, 28, 29, 30, 31, 32, 3, 33, 34, 35, 40, 41, 42, 43, 44, 45, 46, 47, 48, 49, 50, 51, 52, 53, 54, 55, 56, 57, 58] (by decide +kernel) (by decide +kernel)
set_option maxRecDepth 20000 in
theorem gX4_tell_X4_isKnown : GoodIn wsX4_tell (wsV RX4 69 RX4 yX4_isKnown wsX4_isKnown) := goodIn_app (goodIn_of _ (by decide +kernel)) ggX4_tell_X4_isKnown
set_option maxRecDepth 20000 in
theorem ggX4_tell_X4_spotOf : GoodIn wsX4_tell wsX4_spotOf := goodIn_r _ [35] (by decide +kernel) (by decide +kernel)
set_option maxRecDepth 20000 in
theorem gX4_tell_X4_spotOf : GoodIn wsX4_tell (va_wsS RX4 59 yX4_spotOf wsX4_spotOf) := goodIn_app (goodIn_of _ (by decide +kernel)) ggX4_tell_X4_spotOf
set_option maxRecDepth 20000 in
theorem ggX4_tell_X4_knowing : GoodIn wsX4_tell wsX4_knowing := goodIn_r _ [39, 21, 22, 23, 6, 24, 25, 26, 27, 28, 29, 30, 31, 32, 3, 33, 34, 35, 40, 41, 42, 43, 44, 45, 46, 47, 48, 49, 50, 51, 52, 53, 54, 55, 56, 57, 58] (by decide +kernel) (by decide +kernel)
set_option maxRecDepth 20000 in
theorem gX4_tell_X4_knowing : GoodIn wsX4_tell (wsV RX4 118 RX4 yX4_knowing wsX4_knowing) := goodIn_app (goodIn_of _ (by decide +kernel)) ggX4_tell_X4_knowing
theorem dX4_tell_0 : decode cX4_tell 0 = .ok (.iload_n 1, 1) := by decide +kernel
theorem dX4_tell_1 : decode cX4_tell 1 = .ok (.invokestatic 73, 3) := by decide +kernel
theorem dX4_tell_4 : decode cX4_tell 4 = .ok (.ifCond .eq 10, 3) := by decide +kernel
theorem dX4_tell_7 : decode cX4_tell 7 = .ok (.iload_n 2, 1) := by decide +kernel
theorem dX4_tell_8 : decode cX4_tell 8 = .ok (.invokestatic 94, 3) := by decide +kernel
theorem dX4_tell_11 : decode cX4_tell 11 = .ok (.ifCond .ne 10, 3) := by decide +kernel
theorem dX4_tell_14 : decode cX4_tell 14 = .ok (.aload_n 0, 1) := by decide +kernel
theorem dX4_tell_15 : decode cX4_tell 15 = .ok (.ldc 48, 2) := by decide +kernel
theorem dX4_tell_17 : decode cX4_tell 17 = .ok (.invokevirtual 77, 3) := by decide +kernel
theorem dX4_tell_20 : decode cX4_tell 20 = .ok (.ireturn, 1) := by decide +kernel
theorem dX4_tell_21 : decode cX4_tell 21 = .ok (.aload_n 0, 1) := by decide +kernel
theorem dX4_tell_22 : decode cX4_tell 22 = .ok (.iload_n 1, 1) := by decide +kernel
theorem dX4_tell_23 : decode cX4_tell 23 = .ok (.iload_n 2, 1) := by decide +kernel
theorem dX4_tell_24 : decode cX4_tell 24 = .ok (.invokevirtual 69, 3) := by decide +kernel
theorem dX4_tell_27 : decode cX4_tell 27 = .ok (.ifCond .eq 10, 3) := by decide +kernel
theorem dX4_tell_30 : decode cX4_tell 30 = .ok (.aload_n 0, 1) := by decide +kernel
theorem dX4_tell_31 : decode cX4_tell 31 = .ok (.ldc 117, 2) := by decide +kernel
theorem dX4_tell_33 : decode cX4_tell 33 = .ok (.invokevirtual 77, 3) := by decide +kernel
theorem dX4_tell_36 : decode cX4_tell 36 = .ok (.ireturn, 1) := by decide +kernel
theorem dX4_tell_37 : decode cX4_tell 37 = .ok (.aload_n 0, 1) := by decide +kernel
theorem dX4_tell_38 : decode cX4_tell 38 = .ok (.getfield 7, 3) := by decide +kernel
theorem dX4_tell_41 : decode cX4_tell 41 = .ok (.iload_n 1, 1) := by decide +kernel
theorem dX4_tell_42 : decode cX4_tell 42 = .ok (.iconst 2, 1) := by decide +kernel
theorem dX4_tell_43 : decode cX4_tell 43 = .ok (.iload_n 2, 1) := by decide +kernel
theorem dX4_tell_44 : decode cX4_tell 44 = .ok (.iadd, 1) := by decide +kernel
theorem dX4_tell_45 : decode cX4_tell 45 = .ok (.invokestatic 59, 3) := by decide +kernel
theorem dX4_tell_48 : decode cX4_tell 48 = .ok (.aload_n 0, 1) := by decide +kernel
theorem dX4_tell_49 : decode cX4_tell 49 = .ok (.getfield 7, 3) := by decide +kernel
theorem dX4_tell_52 : decode cX4_tell 52 = .ok (.iconst 0, 1) := by decide +kernel
theorem dX4_tell_53 : decode cX4_tell 53 = .ok (.iaload, 1) := by decide +kernel
theorem dX4_tell_54 : decode cX4_tell 54 = .ok (.iastore, 1) := by decide +kernel
theorem dX4_tell_55 : decode cX4_tell 55 = .ok (.aload_n 0, 1) := by decide +kernel
theorem dX4_tell_56 : decode cX4_tell 56 = .ok (.iload_n 2, 1) := by decide +kernel
theorem dX4_tell_57 : decode cX4_tell 57 = .ok (.invokevirtual 118, 3) := by decide +kernel
theorem dX4_tell_60 : decode cX4_tell 60 = .ok (.ireturn, 1) := by decide +kernel
set_option maxRecDepth 20000 in
theorem ggX4_forget_X4_isMessage : GoodIn wsX4_forget wsX4_isMessage := goodIn_r _ [6, 7, 8, 9, 5, 10] (by decide +kernel) (by decide +kernel)
set_option maxRecDepth 20000 in
theorem gX4_forget_X4_isMessage : GoodIn wsX4_forget (va_wsS RX4 94 yX4_isMessage wsX4_isMessage) := goodIn_app (goodIn_of _ (by decide +kernel)) ggX4_forget_X4_isMessage
set_option maxRecDepth 20000 in
theorem ggX4_forget_X4_finds : GoodIn wsX4_forget wsX4_finds := goodIn_r _ [14, 15, 1, 35, 36, 37, 38, 39, 40, 41, 42, 43, 44, 45, 46, 47, 48, 49, 50, 51, 52, 53] (by decide +kernel) (by decide +kernel)
set_option maxRecDepth 20000 in
theorem gX4_forget_X4_finds : GoodIn wsX4_forget (wsV RX4 77 RX4 yX4_finds wsX4_finds) := goodIn_app (goodIn_of _ (by decide +kernel)) ggX4_forget_X4_finds
set_option maxRecDepth 20000 in
theorem ggX4_forget_X4_knowing : GoodIn wsX4_forget wsX4_knowing := goodIn_r _ [19, 20, 21, 22, 5, 23, 24, 25, 26, 27, 28, 29, 30, 31, 2, 32, 33, 34, 35, 36, 37, 38, 39, 40, 41, 42, 43, 44, 45, 46, 47, 48, 49, 50, 51, 52, 53] (by decide +kernel) (by decide +kernel)
set_option maxRecDepth 20000 in
theorem gX4_forget_X4_knowing : GoodIn wsX4_forget (wsV RX4 118 RX4 yX4_knowing wsX4_knowing) := goodIn_app (goodIn_of _ (by decide +kernel)) ggX4_forget_X4_knowing
set_option maxRecDepth 20000 in
theorem ggX4_forget_X4_spotOf : GoodIn wsX4_forget wsX4_spotOf := goodIn_r _ [34] (by decide +kernel) (by decide +kernel)
set_option maxRecDepth 20000 in
theorem gX4_forget_X4_spotOf : GoodIn wsX4_forget (va_wsS RX4 59 yX4_spotOf wsX4_spotOf) := goodIn_app (goodIn_of _ (by decide +kernel)) ggX4_forget_X4_spotOf
theorem dX4_forget_0 : decode cX4_forget 0 = .ok (.iload_n 1, 1) := by decide +kernel
theorem dX4_forget_1 : decode cX4_forget 1 = .ok (.invokestatic 94, 3) := by decide +kernel
theorem dX4_forget_4 : decode cX4_forget 4 = .ok (.ifCond .ne 10, 3) := by decide +kernel
theorem dX4_forget_7 : decode cX4_forget 7 = .ok (.aload_n 0, 1) := by decide +kernel
theorem dX4_forget_8 : decode cX4_forget 8 = .ok (.ldc 48, 2) := by decide +kernel
theorem dX4_forget_10 : decode cX4_forget 10 = .ok (.invokevirtual 77, 3) := by decide +kernel
theorem dX4_forget_13 : decode cX4_forget 13 = .ok (.ireturn, 1) := by decide +kernel
theorem dX4_forget_14 : decode cX4_forget 14 = .ok (.aload_n 0, 1) := by decide +kernel
theorem dX4_forget_15 : decode cX4_forget 15 = .ok (.iload_n 1, 1) := by decide +kernel
theorem dX4_forget_16 : decode cX4_forget 16 = .ok (.invokevirtual 118, 3) := by decide +kernel
theorem dX4_forget_19 : decode cX4_forget 19 = .ok (.istore_n 2, 1) := by decide +kernel
theorem dX4_forget_20 : decode cX4_forget 20 = .ok (.iconst 0, 1) := by decide +kernel
theorem dX4_forget_21 : decode cX4_forget 21 = .ok (.istore_n 3, 1) := by decide +kernel
theorem dX4_forget_22 : decode cX4_forget 22 = .ok (.iload_n 3, 1) := by decide +kernel
theorem dX4_forget_23 : decode cX4_forget 23 = .ok (.bipush 12, 2) := by decide +kernel
theorem dX4_forget_25 : decode cX4_forget 25 = .ok (.if_icmp .ge 22, 3) := by decide +kernel
theorem dX4_forget_28 : decode cX4_forget 28 = .ok (.aload_n 0, 1) := by decide +kernel
theorem dX4_forget_29 : decode cX4_forget 29 = .ok (.getfield 7, 3) := by decide +kernel
theorem dX4_forget_32 : decode cX4_forget 32 = .ok (.iload_n 3, 1) := by decide +kernel
theorem dX4_forget_33 : decode cX4_forget 33 = .ok (.iconst 2, 1) := by decide +kernel
theorem dX4_forget_34 : decode cX4_forget 34 = .ok (.iload_n 1, 1) := by decide +kernel
theorem dX4_forget_35 : decode cX4_forget 35 = .ok (.iadd, 1) := by decide +kernel
theorem dX4_forget_36 : decode cX4_forget 36 = .ok (.invokestatic 59, 3) := by decide +kernel
theorem dX4_forget_39 : decode cX4_forget 39 = .ok (.iconst (-1), 1) := by decide +kernel
theorem dX4_forget_40 : decode cX4_forget 40 = .ok (.iastore, 1) := by decide +kernel
theorem dX4_forget_41 : decode cX4_forget 41 = .ok (.iinc 3 1, 3) := by decide +kernel
theorem dX4_forget_44 : decode cX4_forget 44 = .ok (.goto (-22), 3) := by decide +kernel
theorem dX4_forget_47 : decode cX4_forget 47 = .ok (.iload_n 2, 1) := by decide +kernel
theorem dX4_forget_48 : decode cX4_forget 48 = .ok (.ireturn, 1) := by decide +kernel
set_option maxRecDepth 20000 in
theorem ggX4_isTold_X4_isKnown : GoodIn wsX4_isTold wsX4_isKnown := goodIn_r _ [6, 7, 8, 9, 5, 10, 11, 12, 13, 14, 1, 15, 16, 17, 18, 19, 20, 21, 22, 23, 24, 25, 26, 27, 28, 29, 30, 31, 32, 33, 34, 35, 36] (by decide +kernel) (by decide +kernel)
set_option maxRecDepth 20000 in
theorem gX4_isTold_X4_isKnown : GoodIn wsX4_isTold (wsV RX4 69 RX4 yX4_isKnown wsX4_isKnown) := goodIn_app (goodIn_of _ (by decide +kernel)) ggX4_isTold_X4_isKnown
set_option maxRecDepth 20000 in
theorem ggX4_isTold_X4_sinceOf : GoodIn wsX4_isTold wsX4_sinceOf := goodIn_r _ [10, 11, 12, 13, 5, 14, 1, 15, 16, 17, 18, 19, 20, 21, 22, 23, 24, 25, 26, 27, 28, 29, 30, 31, 32, 33, 34, 35, 36] (by decide +kernel) (by decide +kernel)
set_option maxRecDepth 20000 in
theorem gX4_isTold_X4_sinceOf : GoodIn wsX4_isTold (wsV RX4 66 RX4 yX4_sinceOf wsX4_sinceOf) := goodIn_app (goodIn_of _ (by decide +kernel)) ggX4_isTold_X4_sinceOf
theorem dX4_isTold_0 : decode cX4_isTold 0 = .ok (.aload_n 0, 1) := by decide +kernel
theorem dX4_isTold_1 : decode cX4_isTold 1 = .ok (.iload_n 1, 1) := by decide +kernel
theorem dX4_isTold_2 : decode cX4_isTold 2 = .ok (.iload_n 2, 1) := by decide +kernel
theorem dX4_isTold_3 : decode cX4_isTold 3 = .ok (.invokevirtual 69, 3) := by decide +kernel
theorem dX4_isTold_6 : decode cX4_isTold 6 = .ok (.ifCond .eq 24, 3) := by decide +kernel
theorem dX4_isTold_9 : decode cX4_isTold 9 = .ok (.aload_n 0, 1) := by decide +kernel
theorem dX4_isTold_10 : decode cX4_isTold 10 = .ok (.getfield 7, 3) := by decide +kernel
theorem dX4_isTold_13 : decode cX4_isTold 13 = .ok (.iconst 0, 1) := by decide +kernel
theorem dX4_isTold_14 : decode cX4_isTold 14 = .ok (.iaload, 1) := by decide +kernel
theorem dX4_isTold_15 : decode cX4_isTold 15 = .ok (.aload_n 0, 1) := by decide +kernel
theorem dX4_isTold_16 : decode cX4_isTold 16 = .ok (.iload_n 1, 1) := by decide +kernel
theorem dX4_isTold_17 : decode cX4_isTold 17 = .ok (.iload_n 2, 1) := by decide +kernel
theorem dX4_isTold_18 : decode cX4_isTold 18 = .ok (.invokevirtual 66, 3) := by decide +kernel
theorem dX4_isTold_21 : decode cX4_isTold 21 = .ok (.isub, 1) := by decide +kernel
theorem dX4_isTold_22 : decode cX4_isTold 22 = .ok (.iload_n 3, 1) := by decide +kernel
theorem dX4_isTold_23 : decode cX4_isTold 23 = .ok (.if_icmp .lt 7, 3) := by decide +kernel
theorem dX4_isTold_26 : decode cX4_isTold 26 = .ok (.iconst 1, 1) := by decide +kernel
theorem dX4_isTold_27 : decode cX4_isTold 27 = .ok (.goto 4, 3) := by decide +kernel
theorem dX4_isTold_30 : decode cX4_isTold 30 = .ok (.iconst 0, 1) := by decide +kernel
theorem dX4_isTold_31 : decode cX4_isTold 31 = .ok (.ireturn, 1) := by decide +kernel
set_option maxRecDepth 20000 in
theorem ggX4_newsOf_X4_isHearing : GoodIn wsX4_newsOf wsX4_isHearing := goodIn_r _ [5, 6, 7, 8, 9, 4, 10, 11, 12, 13, 38, 39, 40, 41, 42, 43, 44, 45, 46, 47, 48, 49, 50, 51, 52, 53, 54, 55, 56] (by decide +kernel) (by decide +kernel)
set_option maxRecDepth 20000 in
theorem gX4_newsOf_X4_isHearing : GoodIn wsX4_newsOf (wsV RX4 87 RX4 yX4_isHearing wsX4_isHearing) := goodIn_app (goodIn_of _ (by decide +kernel)) ggX4_newsOf_X4_isHearing
set_option maxRecDepth 20000 in
theorem ggX4_newsOf_X4_leansOf : GoodIn wsX4_newsOf wsX4_leansOf := goodIn_r _ [17, 7, 8, 9, 4, 10, 6, 11, 12, 13, 38, 39, 40, 41, 42, 43, 44, 45, 46, 47, 48, 49, 50, 51, 52, 53, 54, 55, 56] (by decide +kernel) (by decide +kernel)
set_option maxRecDepth 20000 in
theorem gX4_newsOf_X4_leansOf : GoodIn wsX4_newsOf (wsV RX4 81 RX4 yX4_leansOf wsX4_leansOf) := goodIn_app (goodIn_of _ (by decide +kernel)) ggX4_newsOf_X4_leansOf
set_option maxRecDepth 20000 in
theorem ggX4_newsOf_X4_isTold : GoodIn wsX4_newsOf wsX4_isTold := goodIn_r _ [21, 6, 22, 23, 24, 4, 25, 26, 27, 28, 29, 7, 8, 9, 10, 11, 12, 13, 38, 39, 40, 41, 42, 43, 44, 45, 46, 47, 48, 49, 50, 51, 52, 53, 54, 55, 56] (by decide +kernel) (by decide +kernel)
set_option maxRecDepth 20000 in
theorem gX4_newsOf_X4_isTold : GoodIn wsX4_newsOf (wsV RX4 121 RX4 yX4_isTold wsX4_isTold) := goodIn_app (goodIn_of _ (by decide +kernel)) ggX4_newsOf_X4_isTold
set_option maxRecDepth 20000 in
theorem ggX4_newsOf_X4_isMet : GoodIn wsX4_newsOf wsX4_isMet := goodIn_r _ [33, 6, 38, 39, 40, 41, 42, 43, 44, 45, 46, 47, 48, 49, 50, 51, 52, 53, 54, 55, 56] (by decide +kernel) (by decide +kernel)
set_option maxRecDepth 20000 in
theorem gX4_newsOf_X4_isMet : GoodIn wsX4_newsOf (wsV RX4 110 RX4 yX4_isMet wsX4_isMet) := goodIn_app (goodIn_of _ (by decide +kernel)) ggX4_newsOf_X4_isMet
set_option maxRecDepth 20000 in
theorem ggX4_newsOf_X4_nodsOf : GoodIn wsX4_newsOf wsX4_nodsOf := goodIn_r _ [37, 7, 8, 9, 4, 10, 6, 11, 12, 13, 38, 39, 40, 41, 42, 43, 44, 45, 46, 47, 48, 49, 50, 51, 52, 53, 54, 55, 56] (by decide +kernel) (by decide +kernel)
set_option maxRecDepth 20000 in
theorem gX4_newsOf_X4_nodsOf : GoodIn wsX4_newsOf (wsV RX4 84 RX4 yX4_nodsOf wsX4_nodsOf) := goodIn_app (goodIn_of _ (by decide +kernel)) ggX4_newsOf_X4_nodsOf
set_option maxRecDepth 20000 in
theorem ggX4_newsOf_X4_isKnown : GoodIn wsX4_newsOf wsX4_isKnown := goodIn_r _ [25, 26, 27, 28, 4, 29, 7, 8, 9, 10, 6, 11, 12, 13, 38, 39, 40, 41, 42, 43, 44, 45, 46, 47, 48, 49, 50, 51, 52, 53, 54, 55, 56] (by decide +kernel) (by decide +kernel)
set_option maxRecDepth 20000 in
theorem gX4_newsOf_X4_isKnown : GoodIn wsX4_newsOf (wsV RX4 69 RX4 yX4_isKnown wsX4_isKnown) := goodIn_app (goodIn_of _ (by decide +kernel)) ggX4_newsOf_X4_isKnown
theorem dX4_newsOf_0 : decode cX4_newsOf 0 = .ok (.iconst 0, 1) := by decide +kernel
theorem dX4_newsOf_1 : decode cX4_newsOf 1 = .ok (.istore_n 2, 1) := by decide +kernel
theorem dX4_newsOf_2 : decode cX4_newsOf 2 = .ok (.iconst 0, 1) := by decide +kernel
theorem dX4_newsOf_3 : decode cX4_newsOf 3 = .ok (.istore_n 3, 1) := by decide +kernel
theorem dX4_newsOf_4 : decode cX4_newsOf 4 = .ok (.iload_n 3, 1) := by decide +kernel
theorem dX4_newsOf_5 : decode cX4_newsOf 5 = .ok (.bipush 8, 2) := by decide +kernel
theorem dX4_newsOf_7 : decode cX4_newsOf 7 = .ok (.if_icmp .ge 121, 3) := by decide +kernel
theorem dX4_newsOf_10 : decode cX4_newsOf 10 = .ok (.iload_n 1, 1) := by decide +kernel
theorem dX4_newsOf_11 : decode cX4_newsOf 11 = .ok (.iconst 1, 1) := by decide +kernel
theorem dX4_newsOf_12 : decode cX4_newsOf 12 = .ok (.if_icmp .le 34, 3) := by decide +kernel
theorem dX4_newsOf_15 : decode cX4_newsOf 15 = .ok (.aload_n 0, 1) := by decide +kernel
theorem dX4_newsOf_16 : decode cX4_newsOf 16 = .ok (.iload_n 1, 1) := by decide +kernel
theorem dX4_newsOf_17 : decode cX4_newsOf 17 = .ok (.iconst 0, 1) := by decide +kernel
theorem dX4_newsOf_18 : decode cX4_newsOf 18 = .ok (.invokevirtual 87, 3) := by decide +kernel
theorem dX4_newsOf_21 : decode cX4_newsOf 21 = .ok (.ifCond .eq 25, 3) := by decide +kernel
theorem dX4_newsOf_24 : decode cX4_newsOf 24 = .ok (.aload_n 0, 1) := by decide +kernel
theorem dX4_newsOf_25 : decode cX4_newsOf 25 = .ok (.iload_n 1, 1) := by decide +kernel
theorem dX4_newsOf_26 : decode cX4_newsOf 26 = .ok (.iconst 2, 1) := by decide +kernel
theorem dX4_newsOf_27 : decode cX4_newsOf 27 = .ok (.isub, 1) := by decide +kernel
theorem dX4_newsOf_28 : decode cX4_newsOf 28 = .ok (.iload_n 3, 1) := by decide +kernel
theorem dX4_newsOf_29 : decode cX4_newsOf 29 = .ok (.aload_n 0, 1) := by decide +kernel
theorem dX4_newsOf_30 : decode cX4_newsOf 30 = .ok (.iload_n 1, 1) := by decide +kernel
theorem dX4_newsOf_31 : decode cX4_newsOf 31 = .ok (.iconst 2, 1) := by decide +kernel
theorem dX4_newsOf_32 : decode cX4_newsOf 32 = .ok (.isub, 1) := by decide +kernel
theorem dX4_newsOf_33 : decode cX4_newsOf 33 = .ok (.invokevirtual 81, 3) := by decide +kernel
theorem dX4_newsOf_36 : decode cX4_newsOf 36 = .ok (.invokevirtual 121, 3) := by decide +kernel
theorem dX4_newsOf_39 : decode cX4_newsOf 39 = .ok (.ifCond .eq 7, 3) := by decide +kernel
theorem dX4_newsOf_42 : decode cX4_newsOf 42 = .ok (.iconst 1, 1) := by decide +kernel
theorem dX4_newsOf_43 : decode cX4_newsOf 43 = .ok (.goto 4, 3) := by decide +kernel
theorem dX4_newsOf_46 : decode cX4_newsOf 46 = .ok (.iconst 0, 1) := by decide +kernel
theorem dX4_newsOf_47 : decode cX4_newsOf 47 = .ok (.istore 4, 2) := by decide +kernel
theorem dX4_newsOf_49 : decode cX4_newsOf 49 = .ok (.aload_n 0, 1) := by decide +kernel
theorem dX4_newsOf_50 : decode cX4_newsOf 50 = .ok (.iload_n 1, 1) := by decide +kernel
theorem dX4_newsOf_51 : decode cX4_newsOf 51 = .ok (.iconst 2, 1) := by decide +kernel
theorem dX4_newsOf_52 : decode cX4_newsOf 52 = .ok (.idiv, 1) := by decide +kernel
theorem dX4_newsOf_53 : decode cX4_newsOf 53 = .ok (.invokevirtual 110, 3) := by decide +kernel
theorem dX4_newsOf_56 : decode cX4_newsOf 56 = .ok (.ifCond .eq 34, 3) := by decide +kernel
theorem dX4_newsOf_59 : decode cX4_newsOf 59 = .ok (.aload_n 0, 1) := by decide +kernel
theorem dX4_newsOf_60 : decode cX4_newsOf 60 = .ok (.iload_n 1, 1) := by decide +kernel
theorem dX4_newsOf_61 : decode cX4_newsOf 61 = .ok (.iconst 1, 1) := by decide +kernel
theorem dX4_newsOf_62 : decode cX4_newsOf 62 = .ok (.invokevirtual 87, 3) := by decide +kernel
theorem dX4_newsOf_65 : decode cX4_newsOf 65 = .ok (.ifCond .eq 25, 3) := by decide +kernel
theorem dX4_newsOf_68 : decode cX4_newsOf 68 = .ok (.aload_n 0, 1) := by decide +kernel
theorem dX4_newsOf_69 : decode cX4_newsOf 69 = .ok (.iload_n 1, 1) := by decide +kernel
theorem dX4_newsOf_70 : decode cX4_newsOf 70 = .ok (.iconst 1, 1) := by decide +kernel
theorem dX4_newsOf_71 : decode cX4_newsOf 71 = .ok (.ixor, 1) := by decide +kernel
theorem dX4_newsOf_72 : decode cX4_newsOf 72 = .ok (.iload_n 3, 1) := by decide +kernel
theorem dX4_newsOf_73 : decode cX4_newsOf 73 = .ok (.aload_n 0, 1) := by decide +kernel
theorem dX4_newsOf_74 : decode cX4_newsOf 74 = .ok (.iload_n 1, 1) := by decide +kernel
theorem dX4_newsOf_75 : decode cX4_newsOf 75 = .ok (.iconst 1, 1) := by decide +kernel
theorem dX4_newsOf_76 : decode cX4_newsOf 76 = .ok (.ixor, 1) := by decide +kernel
theorem dX4_newsOf_77 : decode cX4_newsOf 77 = .ok (.invokevirtual 84, 3) := by decide +kernel
theorem dX4_newsOf_80 : decode cX4_newsOf 80 = .ok (.invokevirtual 121, 3) := by decide +kernel
theorem dX4_newsOf_83 : decode cX4_newsOf 83 = .ok (.ifCond .eq 7, 3) := by decide +kernel
theorem dX4_newsOf_86 : decode cX4_newsOf 86 = .ok (.iconst 1, 1) := by decide +kernel
theorem dX4_newsOf_87 : decode cX4_newsOf 87 = .ok (.goto 4, 3) := by decide +kernel
theorem dX4_newsOf_90 : decode cX4_newsOf 90 = .ok (.iconst 0, 1) := by decide +kernel
theorem dX4_newsOf_91 : decode cX4_newsOf 91 = .ok (.istore 5, 2) := by decide +kernel
theorem dX4_newsOf_93 : decode cX4_newsOf 93 = .ok (.iload_n 2, 1) := by decide +kernel
theorem dX4_newsOf_94 : decode cX4_newsOf 94 = .ok (.aload_n 0, 1) := by decide +kernel
theorem dX4_newsOf_95 : decode cX4_newsOf 95 = .ok (.iload_n 1, 1) := by decide +kernel
theorem dX4_newsOf_96 : decode cX4_newsOf 96 = .ok (.iload_n 3, 1) := by decide +kernel
theorem dX4_newsOf_97 : decode cX4_newsOf 97 = .ok (.invokevirtual 69, 3) := by decide +kernel
theorem dX4_newsOf_100 : decode cX4_newsOf 100 = .ok (.ifCond .ne 19, 3) := by decide +kernel
theorem dX4_newsOf_103 : decode cX4_newsOf 103 = .ok (.iload 4, 2) := by decide +kernel
theorem dX4_newsOf_105 : decode cX4_newsOf 105 = .ok (.ifCond .ne 8, 3) := by decide +kernel
theorem dX4_newsOf_108 : decode cX4_newsOf 108 = .ok (.iload 5, 2) := by decide +kernel
theorem dX4_newsOf_110 : decode cX4_newsOf 110 = .ok (.ifCond .eq 9, 3) := by decide +kernel
theorem dX4_newsOf_113 : decode cX4_newsOf 113 = .ok (.iconst 1, 1) := by decide +kernel
theorem dX4_newsOf_114 : decode cX4_newsOf 114 = .ok (.iload_n 3, 1) := by decide +kernel
theorem dX4_newsOf_115 : decode cX4_newsOf 115 = .ok (.ishl, 1) := by decide +kernel
theorem dX4_newsOf_116 : decode cX4_newsOf 116 = .ok (.goto 4, 3) := by decide +kernel
theorem dX4_newsOf_119 : decode cX4_newsOf 119 = .ok (.iconst 0, 1) := by decide +kernel
theorem dX4_newsOf_120 : decode cX4_newsOf 120 = .ok (.ior, 1) := by decide +kernel
theorem dX4_newsOf_121 : decode cX4_newsOf 121 = .ok (.istore_n 2, 1) := by decide +kernel
theorem dX4_newsOf_122 : decode cX4_newsOf 122 = .ok (.iinc 3 1, 3) := by decide +kernel
theorem dX4_newsOf_125 : decode cX4_newsOf 125 = .ok (.goto (-121), 3) := by decide +kernel
theorem dX4_newsOf_128 : decode cX4_newsOf 128 = .ok (.iload_n 2, 1) := by decide +kernel
theorem dX4_newsOf_129 : decode cX4_newsOf 129 = .ok (.ireturn, 1) := by decide +kernel
set_option maxRecDepth 20000 in
theorem ggX4_learns_X4_isKnown : GoodIn wsX4_learns wsX4_isKnown := goodIn_r _ [6, 7, 8, 9, 5, 10, 11, 12, 13, 14, 1, 15, 16, 17, 18, 19, 20, 21, 22, 23, 24, 25, 26, 27, 28, 29, 30, 31, 32, 33, 34, 35, 36] (by decide +kernel) (by decide +kernel)
set_option maxRecDepth 20000 in
theorem gX4_learns_X4_isKnown : GoodIn wsX4_learns (wsV RX4 69 RX4 yX4_isKnown wsX4_isKnown) := goodIn_app (goodIn_of _ (by decide +kernel)) ggX4_learns_X4_isKnown
set_option maxRecDepth 20000 in
theorem ggX4_learns_X4_spotOf : GoodIn wsX4_learns wsX4_spotOf := goodIn_r _ [17] (by decide +kernel) (by decide +kernel)
set_option maxRecDepth 20000 in
theorem gX4_learns_X4_spotOf : GoodIn wsX4_learns (va_wsS RX4 59 yX4_spotOf wsX4_spotOf) := goodIn_app (goodIn_of _ (by decide +kernel)) ggX4_learns_X4_spotOf
theorem dX4_learns_0 : decode cX4_learns 0 = .ok (.iconst 0, 1) := by decide +kernel
theorem dX4_learns_1 : decode cX4_learns 1 = .ok (.istore_n 3, 1) := by decide +kernel
theorem dX4_learns_2 : decode cX4_learns 2 = .ok (.iconst 0, 1) := by decide +kernel
theorem dX4_learns_3 : decode cX4_learns 3 = .ok (.istore 4, 2) := by decide +kernel
theorem dX4_learns_5 : decode cX4_learns 5 = .ok (.iload 4, 2) := by decide +kernel
theorem dX4_learns_7 : decode cX4_learns 7 = .ok (.bipush 8, 2) := by decide +kernel
theorem dX4_learns_9 : decode cX4_learns 9 = .ok (.if_icmp .ge 51, 3) := by decide +kernel
theorem dX4_learns_12 : decode cX4_learns 12 = .ok (.iload_n 2, 1) := by decide +kernel
theorem dX4_learns_13 : decode cX4_learns 13 = .ok (.iload 4, 2) := by decide +kernel
theorem dX4_learns_15 : decode cX4_learns 15 = .ok (.ishr, 1) := by decide +kernel
theorem dX4_learns_16 : decode cX4_learns 16 = .ok (.iconst 1, 1) := by decide +kernel
theorem dX4_learns_17 : decode cX4_learns 17 = .ok (.iand, 1) := by decide +kernel
theorem dX4_learns_18 : decode cX4_learns 18 = .ok (.iconst 1, 1) := by decide +kernel
theorem dX4_learns_19 : decode cX4_learns 19 = .ok (.if_icmp .ne 35, 3) := by decide +kernel
theorem dX4_learns_22 : decode cX4_learns 22 = .ok (.aload_n 0, 1) := by decide +kernel
theorem dX4_learns_23 : decode cX4_learns 23 = .ok (.iload_n 1, 1) := by decide +kernel
theorem dX4_learns_24 : decode cX4_learns 24 = .ok (.iload 4, 2) := by decide +kernel
theorem dX4_learns_26 : decode cX4_learns 26 = .ok (.invokevirtual 69, 3) := by decide +kernel
theorem dX4_learns_29 : decode cX4_learns 29 = .ok (.ifCond .ne 25, 3) := by decide +kernel
theorem dX4_learns_32 : decode cX4_learns 32 = .ok (.aload_n 0, 1) := by decide +kernel
theorem dX4_learns_33 : decode cX4_learns 33 = .ok (.getfield 7, 3) := by decide +kernel
theorem dX4_learns_36 : decode cX4_learns 36 = .ok (.iload_n 1, 1) := by decide +kernel
theorem dX4_learns_37 : decode cX4_learns 37 = .ok (.iconst 2, 1) := by decide +kernel
theorem dX4_learns_38 : decode cX4_learns 38 = .ok (.iload 4, 2) := by decide +kernel
theorem dX4_learns_40 : decode cX4_learns 40 = .ok (.iadd, 1) := by decide +kernel
theorem dX4_learns_41 : decode cX4_learns 41 = .ok (.invokestatic 59, 3) := by decide +kernel
theorem dX4_learns_44 : decode cX4_learns 44 = .ok (.aload_n 0, 1) := by decide +kernel
theorem dX4_learns_45 : decode cX4_learns 45 = .ok (.getfield 7, 3) := by decide +kernel
theorem dX4_learns_48 : decode cX4_learns 48 = .ok (.iconst 0, 1) := by decide +kernel
theorem dX4_learns_49 : decode cX4_learns 49 = .ok (.iaload, 1) := by decide +kernel
theorem dX4_learns_50 : decode cX4_learns 50 = .ok (.iastore, 1) := by decide +kernel
theorem dX4_learns_51 : decode cX4_learns 51 = .ok (.iinc 3 1, 3) := by decide +kernel
theorem dX4_learns_54 : decode cX4_learns 54 = .ok (.iinc 4 1, 3) := by decide +kernel
theorem dX4_learns_57 : decode cX4_learns 57 = .ok (.goto (-52), 3) := by decide +kernel
theorem dX4_learns_60 : decode cX4_learns 60 = .ok (.iload_n 3, 1) := by decide +kernel
theorem dX4_learns_61 : decode cX4_learns 61 = .ok (.ireturn, 1) := by decide +kernel
set_option maxRecDepth 20000 in
theorem ggX4_year_X4_spotOf : GoodIn wsX4_year wsX4_spotOf := goodIn_r _ [6] (by decide +kernel) (by decide +kernel)
set_option maxRecDepth 20000 in
theorem gX4_year_X4_spotOf : GoodIn wsX4_year (va_wsS RX4 59 yX4_spotOf wsX4_spotOf) := goodIn_app (goodIn_of _ (by decide +kernel)) ggX4_year_X4_spotOf
set_option maxRecDepth 20000 in
theorem ggX4_year_X4_its : GoodIn wsX4_year wsX4_its := goodIn_r _ [10, 1, 3, 4, 5, 6, 47, 48, 49, 50, 51, 52, 53, 54, 55, 56, 57, 58, 59, 60, 61, 62, 63, 64, 65] (by decide +kernel) (by decide +kernel)
set_option maxRecDepth 20000 in
theorem gX4_year_X4_its : GoodIn wsX4_year (wsV RX4 63 RX4 yX4_its wsX4_its) := goodIn_app (goodIn_of _ (by decide +kernel)) ggX4_year_X4_its
set_option maxRecDepth 20000 in
theorem ggX4_year_X4_newsOf : GoodIn wsX4_year wsX4_newsOf := goodIn_r _ [14, 15, 16, 17, 5, 18, 1, 7, 8, 9, 10, 3, 4, 6, 19, 20, 21, 22, 23, 24, 25, 26, 27, 28, 29, 30, 31, 32, 33, 34, 35, 36, 37, 38, 39, 40, 41, 42, 47, 48, 49, 50, 51, 52, 53, 54, 55, 56, 57, 58, 59, 60, 61, 62, 63, 64, 65] (by decide +kernel) (by decide +kernel)
set_option maxRecDepth 20000 in
theorem gX4_year_X4_newsOf : GoodIn wsX4_year (wsV RX4 125 RX4 yX4_newsOf wsX4_newsOf) := goodIn_app (goodIn_of _ (by decide +kernel)) ggX4_year_X4_newsOf
set_option maxRecDepth 20000 in
theorem ggX4_year_X4_learns : GoodIn wsX4_year wsX4_learns := goodIn_r _ [46, 1, 27, 28, 29, 5, 30, 31, 32, 33, 34, 7, 8, 9, 10, 3, 4, 6, 47, 48, 49, 50, 51, 52, 53, 54, 55, 56, 57, 58, 59, 60, 61, 62, 63, 64, 65] (by decide +kernel) (by decide +kernel)
set_option maxRecDepth 20000 in
theorem gX4_year_X4_learns : GoodIn wsX4_year (wsV RX4 128 RX4 yX4_learns wsX4_learns) := goodIn_app (goodIn_of _ (by decide +kernel)) ggX4_year_X4_learns
theorem dX4_year_0 : decode cX4_year 0 = .ok (.iconst 0, 1) := by decide +kernel
theorem dX4_year_1 : decode cX4_year 1 = .ok (.istore_n 1, 1) := by decide +kernel
theorem dX4_year_2 : decode cX4_year 2 = .ok (.iload_n 1, 1) := by decide +kernel
theorem dX4_year_3 : decode cX4_year 3 = .ok (.bipush 12, 2) := by decide +kernel
theorem dX4_year_5 : decode cX4_year 5 = .ok (.if_icmp .ge 39, 3) := by decide +kernel
theorem dX4_year_8 : decode cX4_year 8 = .ok (.aload_n 0, 1) := by decide +kernel
theorem dX4_year_9 : decode cX4_year 9 = .ok (.getfield 7, 3) := by decide +kernel
theorem dX4_year_12 : decode cX4_year 12 = .ok (.iload_n 1, 1) := by decide +kernel
theorem dX4_year_13 : decode cX4_year 13 = .ok (.iconst 1, 1) := by decide +kernel
theorem dX4_year_14 : decode cX4_year 14 = .ok (.invokestatic 59, 3) := by decide +kernel
theorem dX4_year_17 : decode cX4_year 17 = .ok (.dup2, 1) := by decide +kernel
theorem dX4_year_18 : decode cX4_year 18 = .ok (.iaload, 1) := by decide +kernel
theorem dX4_year_19 : decode cX4_year 19 = .ok (.aload_n 0, 1) := by decide +kernel
theorem dX4_year_20 : decode cX4_year 20 = .ok (.iload_n 1, 1) := by decide +kernel
theorem dX4_year_21 : decode cX4_year 21 = .ok (.iconst 1, 1) := by decide +kernel
theorem dX4_year_22 : decode cX4_year 22 = .ok (.invokevirtual 63, 3) := by decide +kernel
theorem dX4_year_25 : decode cX4_year 25 = .ok (.sipush 999, 3) := by decide +kernel
theorem dX4_year_28 : decode cX4_year 28 = .ok (.if_icmp .ge 7, 3) := by decide +kernel
theorem dX4_year_31 : decode cX4_year 31 = .ok (.iconst 1, 1) := by decide +kernel
theorem dX4_year_32 : decode cX4_year 32 = .ok (.goto 4, 3) := by decide +kernel
theorem dX4_year_35 : decode cX4_year 35 = .ok (.iconst 0, 1) := by decide +kernel
theorem dX4_year_36 : decode cX4_year 36 = .ok (.iadd, 1) := by decide +kernel
theorem dX4_year_37 : decode cX4_year 37 = .ok (.iastore, 1) := by decide +kernel
theorem dX4_year_38 : decode cX4_year 38 = .ok (.iinc 1 1, 3) := by decide +kernel
theorem dX4_year_41 : decode cX4_year 41 = .ok (.goto (-39), 3) := by decide +kernel
theorem dX4_year_44 : decode cX4_year 44 = .ok (.iconst 0, 1) := by decide +kernel
theorem dX4_year_45 : decode cX4_year 45 = .ok (.istore_n 1, 1) := by decide +kernel
theorem dX4_year_46 : decode cX4_year 46 = .ok (.iload_n 1, 1) := by decide +kernel
theorem dX4_year_47 : decode cX4_year 47 = .ok (.bipush 12, 2) := by decide +kernel
theorem dX4_year_49 : decode cX4_year 49 = .ok (.if_icmp .ge 20, 3) := by decide +kernel
theorem dX4_year_52 : decode cX4_year 52 = .ok (.aload_n 0, 1) := by decide +kernel
theorem dX4_year_53 : decode cX4_year 53 = .ok (.getfield 25, 3) := by decide +kernel
theorem dX4_year_56 : decode cX4_year 56 = .ok (.iload_n 1, 1) := by decide +kernel
theorem dX4_year_57 : decode cX4_year 57 = .ok (.aload_n 0, 1) := by decide +kernel
theorem dX4_year_58 : decode cX4_year 58 = .ok (.iload_n 1, 1) := by decide +kernel
theorem dX4_year_59 : decode cX4_year 59 = .ok (.invokevirtual 125, 3) := by decide +kernel
theorem dX4_year_62 : decode cX4_year 62 = .ok (.iastore, 1) := by decide +kernel
theorem dX4_year_63 : decode cX4_year 63 = .ok (.iinc 1 1, 3) := by decide +kernel
theorem dX4_year_66 : decode cX4_year 66 = .ok (.goto (-20), 3) := by decide +kernel
theorem dX4_year_69 : decode cX4_year 69 = .ok (.iconst 0, 1) := by decide +kernel
theorem dX4_year_70 : decode cX4_year 70 = .ok (.istore_n 1, 1) := by decide +kernel
theorem dX4_year_71 : decode cX4_year 71 = .ok (.iload_n 1, 1) := by decide +kernel
theorem dX4_year_72 : decode cX4_year 72 = .ok (.bipush 12, 2) := by decide +kernel
theorem dX4_year_74 : decode cX4_year 74 = .ok (.if_icmp .ge 21, 3) := by decide +kernel
theorem dX4_year_77 : decode cX4_year 77 = .ok (.aload_n 0, 1) := by decide +kernel
theorem dX4_year_78 : decode cX4_year 78 = .ok (.iload_n 1, 1) := by decide +kernel
theorem dX4_year_79 : decode cX4_year 79 = .ok (.aload_n 0, 1) := by decide +kernel
theorem dX4_year_80 : decode cX4_year 80 = .ok (.getfield 25, 3) := by decide +kernel
theorem dX4_year_83 : decode cX4_year 83 = .ok (.iload_n 1, 1) := by decide +kernel
theorem dX4_year_84 : decode cX4_year 84 = .ok (.iaload, 1) := by decide +kernel
theorem dX4_year_85 : decode cX4_year 85 = .ok (.invokevirtual 128, 3) := by decide +kernel
theorem dX4_year_88 : decode cX4_year 88 = .ok (.istore_n 2, 1) := by decide +kernel
theorem dX4_year_89 : decode cX4_year 89 = .ok (.iinc 1 1, 3) := by decide +kernel
theorem dX4_year_92 : decode cX4_year 92 = .ok (.goto (-21), 3) := by decide +kernel
theorem dX4_year_95 : decode cX4_year 95 = .ok (.aload_n 0, 1) := by decide +kernel
theorem dX4_year_96 : decode cX4_year 96 = .ok (.getfield 7, 3) := by decide +kernel
theorem dX4_year_99 : decode cX4_year 99 = .ok (.iconst 0, 1) := by decide +kernel
theorem dX4_year_100 : decode cX4_year 100 = .ok (.dup2, 1) := by decide +kernel
theorem dX4_year_101 : decode cX4_year 101 = .ok (.iaload, 1) := by decide +kernel
theorem dX4_year_102 : decode cX4_year 102 = .ok (.iconst 1, 1) := by decide +kernel
theorem dX4_year_103 : decode cX4_year 103 = .ok (.iadd, 1) := by decide +kernel
theorem dX4_year_104 : decode cX4_year 104 = .ok (.iastore, 1) := by decide +kernel
theorem dX4_year_105 : decode cX4_year 105 = .ok (.return_, 1) := by decide +kernel
set_option maxRecDepth 20000 in
theorem ggX4_yearsGo_X4_year : GoodIn wsX4_yearsGo wsX4_year := goodIn_r _ [5, 6, 7, 8, 9, 4, 10, 11, 12, 13, 14, 15, 16, 17, 18, 19, 20, 21, 22, 23, 24, 25, 26, 27, 28, 29, 30, 31, 32, 33, 34, 35, 36, 37, 38, 39, 40, 41, 42, 43, 44, 45, 46, 47, 48, 49, 50, 51, 52, 53, 54, 55, 56, 57, 58, 59, 60, 61, 62, 63, 64, 65, 66, 67, 68, 69] (by decide +kernel) (by decide +kernel)
set_option maxRecDepth 20000 in
theorem gX4_yearsGo_X4_year : GoodIn wsX4_yearsGo (wsV RX4 131 RX4 yX4_year wsX4_year) := goodIn_app (goodIn_of _ (by decide +kernel)) ggX4_yearsGo_X4_year
theorem dX4_yearsGo_0 : decode cX4_yearsGo 0 = .ok (.iconst 0, 1) := by decide +kernel
theorem dX4_yearsGo_1 : decode cX4_yearsGo 1 = .ok (.istore_n 2, 1) := by decide +kernel
theorem dX4_yearsGo_2 : decode cX4_yearsGo 2 = .ok (.iload_n 2, 1) := by decide +kernel
theorem dX4_yearsGo_3 : decode cX4_yearsGo 3 = .ok (.iload_n 1, 1) := by decide +kernel
theorem dX4_yearsGo_4 : decode cX4_yearsGo 4 = .ok (.if_icmp .ge 13, 3) := by decide +kernel
theorem dX4_yearsGo_7 : decode cX4_yearsGo 7 = .ok (.aload_n 0, 1) := by decide +kernel
theorem dX4_yearsGo_8 : decode cX4_yearsGo 8 = .ok (.invokevirtual 131, 3) := by decide +kernel
theorem dX4_yearsGo_11 : decode cX4_yearsGo 11 = .ok (.iinc 2 1, 3) := by decide +kernel
theorem dX4_yearsGo_14 : decode cX4_yearsGo 14 = .ok (.goto (-12), 3) := by decide +kernel
theorem dX4_yearsGo_17 : decode cX4_yearsGo 17 = .ok (.return_, 1) := by decide +kernel
set_option maxRecDepth 20000 in
theorem ggX4_atHome_X4_knownBy : GoodIn wsX4_atHome wsX4_knownBy := goodIn_r _ [5, 6, 7, 8, 4, 9, 10, 11, 12, 13, 14, 15, 16, 17, 18, 19, 20, 21, 22, 23, 24, 25, 26, 27, 28, 29, 30, 31, 32, 33, 34, 35, 36, 37, 38, 39, 40] (by decide +kernel) (by decide +kernel)
set_option maxRecDepth 20000 in
theorem gX4_atHome_X4_knownBy : GoodIn wsX4_atHome (wsV RX4 91 RX4 yX4_knownBy wsX4_knownBy) := goodIn_app (goodIn_of _ (by decide +kernel)) ggX4_atHome_X4_knownBy
theorem dX4_atHome_0 : decode cX4_atHome 0 = .ok (.aload_n 0, 1) := by decide +kernel
theorem dX4_atHome_1 : decode cX4_atHome 1 = .ok (.bipush 10, 2) := by decide +kernel
theorem dX4_atHome_3 : decode cX4_atHome 3 = .ok (.invokevirtual 91, 3) := by decide +kernel
theorem dX4_atHome_6 : decode cX4_atHome 6 = .ok (.aload_n 0, 1) := by decide +kernel
theorem dX4_atHome_7 : decode cX4_atHome 7 = .ok (.bipush 11, 2) := by decide +kernel
theorem dX4_atHome_9 : decode cX4_atHome 9 = .ok (.invokevirtual 91, 3) := by decide +kernel
theorem dX4_atHome_12 : decode cX4_atHome 12 = .ok (.ior, 1) := by decide +kernel
theorem dX4_atHome_13 : decode cX4_atHome 13 = .ok (.ireturn, 1) := by decide +kernel
set_option maxRecDepth 20000 in
theorem ggX4_knownAtAll_X4_knownBy : GoodIn wsX4_knownAtAll wsX4_knownBy := goodIn_r _ [5, 6, 7, 8, 4, 9, 10, 11, 12, 13, 14, 15, 16, 17, 18, 19, 20, 21, 22, 23, 24, 25, 26, 27, 28, 29, 30, 31, 32, 33, 34, 35, 36, 37, 38, 39, 40] (by decide +kernel) (by decide +kernel)
set_option maxRecDepth 20000 in
theorem gX4_knownAtAll_X4_knownBy : GoodIn wsX4_knownAtAll (wsV RX4 91 RX4 yX4_knownBy wsX4_knownBy) := goodIn_app (goodIn_of _ (by decide +kernel)) ggX4_knownAtAll_X4_knownBy
theorem dX4_knownAtAll_0 : decode cX4_knownAtAll 0 = .ok (.iconst 0, 1) := by decide +kernel
theorem dX4_knownAtAll_1 : decode cX4_knownAtAll 1 = .ok (.istore_n 1, 1) := by decide +kernel
theorem dX4_knownAtAll_2 : decode cX4_knownAtAll 2 = .ok (.iconst 0, 1) := by decide +kernel
theorem dX4_knownAtAll_3 : decode cX4_knownAtAll 3 = .ok (.istore_n 2, 1) := by decide +kernel
theorem dX4_knownAtAll_4 : decode cX4_knownAtAll 4 = .ok (.iload_n 2, 1) := by decide +kernel
theorem dX4_knownAtAll_5 : decode cX4_knownAtAll 5 = .ok (.bipush 12, 2) := by decide +kernel
theorem dX4_knownAtAll_7 : decode cX4_knownAtAll 7 = .ok (.if_icmp .ge 17, 3) := by decide +kernel
theorem dX4_knownAtAll_10 : decode cX4_knownAtAll 10 = .ok (.iload_n 1, 1) := by decide +kernel
theorem dX4_knownAtAll_11 : decode cX4_knownAtAll 11 = .ok (.aload_n 0, 1) := by decide +kernel
theorem dX4_knownAtAll_12 : decode cX4_knownAtAll 12 = .ok (.iload_n 2, 1) := by decide +kernel
theorem dX4_knownAtAll_13 : decode cX4_knownAtAll 13 = .ok (.invokevirtual 91, 3) := by decide +kernel
theorem dX4_knownAtAll_16 : decode cX4_knownAtAll 16 = .ok (.ior, 1) := by decide +kernel
theorem dX4_knownAtAll_17 : decode cX4_knownAtAll 17 = .ok (.istore_n 1, 1) := by decide +kernel
theorem dX4_knownAtAll_18 : decode cX4_knownAtAll 18 = .ok (.iinc 2 1, 3) := by decide +kernel
theorem dX4_knownAtAll_21 : decode cX4_knownAtAll 21 = .ok (.goto (-17), 3) := by decide +kernel
theorem dX4_knownAtAll_24 : decode cX4_knownAtAll 24 = .ok (.iload_n 1, 1) := by decide +kernel
theorem dX4_knownAtAll_25 : decode cX4_knownAtAll 25 = .ok (.ireturn, 1) := by decide +kernel
set_option maxRecDepth 20000 in
theorem ggX4_blows_X4_knownAtAll : GoodIn wsX4_blows wsX4_knownAtAll := goodIn_r _ [5, 6, 7, 8, 4, 9, 10, 11, 12, 13, 14, 15, 16, 17, 18, 19, 20, 21, 22, 23, 24, 25, 34, 35, 36, 37, 38, 39, 40, 41, 42, 43, 44, 45, 46, 47, 48, 49, 50, 51, 52] (by decide +kernel) (by decide +kernel)
set_option maxRecDepth 20000 in
theorem gX4_blows_X4_knownAtAll : GoodIn wsX4_blows (wsV RX4 134 RX4 yX4_knownAtAll wsX4_knownAtAll) := goodIn_app (goodIn_of _ (by decide +kernel)) ggX4_blows_X4_knownAtAll
set_option maxRecDepth 20000 in
theorem ggX4_blows_X4_isHearing : GoodIn wsX4_blows wsX4_isHearing := goodIn_r _ [29, 22, 18, 19, 20, 4, 21, 23, 24, 25, 34, 35, 36, 37, 38, 39, 40, 41, 42, 43, 44, 45, 46, 47, 48, 49, 50, 51, 52] (by decide +kernel) (by decide +kernel)
set_option maxRecDepth 20000 in
theorem gX4_blows_X4_isHearing : GoodIn wsX4_blows (wsV RX4 87 RX4 yX4_isHearing wsX4_isHearing) := goodIn_app (goodIn_of _ (by decide +kernel)) ggX4_blows_X4_isHearing
set_option maxRecDepth 20000 in
theorem ggX4_blows_X4_learns : GoodIn wsX4_blows wsX4_learns := goodIn_r _ [33, 22, 10, 11, 12, 4, 13, 14, 15, 16, 17, 18, 19, 20, 21, 23, 24, 25, 34, 35, 36, 37, 38, 39, 40, 41, 42, 43, 44, 45, 46, 47, 48, 49, 50, 51, 52] (by decide +kernel) (by decide +kernel)
set_option maxRecDepth 20000 in
theorem gX4_blows_X4_learns : GoodIn wsX4_blows (wsV RX4 128 RX4 yX4_learns wsX4_learns) := goodIn_app (goodIn_of _ (by decide +kernel)) ggX4_blows_X4_learns
theorem dX4_blows_0 : decode cX4_blows 0 = .ok (.aload_n 0, 1) := by decide +kernel
theorem dX4_blows_1 : decode cX4_blows 1 = .ok (.invokevirtual 134, 3) := by decide +kernel
theorem dX4_blows_4 : decode cX4_blows 4 = .ok (.istore_n 1, 1) := by decide +kernel
theorem dX4_blows_5 : decode cX4_blows 5 = .ok (.iconst 0, 1) := by decide +kernel
theorem dX4_blows_6 : decode cX4_blows 6 = .ok (.istore_n 2, 1) := by decide +kernel
theorem dX4_blows_7 : decode cX4_blows 7 = .ok (.iconst 0, 1) := by decide +kernel
theorem dX4_blows_8 : decode cX4_blows 8 = .ok (.istore_n 3, 1) := by decide +kernel
theorem dX4_blows_9 : decode cX4_blows 9 = .ok (.iload_n 3, 1) := by decide +kernel
theorem dX4_blows_10 : decode cX4_blows 10 = .ok (.bipush 12, 2) := by decide +kernel
theorem dX4_blows_12 : decode cX4_blows 12 = .ok (.if_icmp .ge 31, 3) := by decide +kernel
theorem dX4_blows_15 : decode cX4_blows 15 = .ok (.iload_n 2, 1) := by decide +kernel
theorem dX4_blows_16 : decode cX4_blows 16 = .ok (.aload_n 0, 1) := by decide +kernel
theorem dX4_blows_17 : decode cX4_blows 17 = .ok (.iload_n 3, 1) := by decide +kernel
theorem dX4_blows_18 : decode cX4_blows 18 = .ok (.iconst 1, 1) := by decide +kernel
theorem dX4_blows_19 : decode cX4_blows 19 = .ok (.invokevirtual 87, 3) := by decide +kernel
theorem dX4_blows_22 : decode cX4_blows 22 = .ok (.ifCond .eq 12, 3) := by decide +kernel
theorem dX4_blows_25 : decode cX4_blows 25 = .ok (.aload_n 0, 1) := by decide +kernel
theorem dX4_blows_26 : decode cX4_blows 26 = .ok (.iload_n 3, 1) := by decide +kernel
theorem dX4_blows_27 : decode cX4_blows 27 = .ok (.iload_n 1, 1) := by decide +kernel
theorem dX4_blows_28 : decode cX4_blows 28 = .ok (.invokevirtual 128, 3) := by decide +kernel
theorem dX4_blows_31 : decode cX4_blows 31 = .ok (.goto 4, 3) := by decide +kernel
theorem dX4_blows_34 : decode cX4_blows 34 = .ok (.iconst 0, 1) := by decide +kernel
theorem dX4_blows_35 : decode cX4_blows 35 = .ok (.iadd, 1) := by decide +kernel
theorem dX4_blows_36 : decode cX4_blows 36 = .ok (.istore_n 2, 1) := by decide +kernel
theorem dX4_blows_37 : decode cX4_blows 37 = .ok (.iinc 3 1, 3) := by decide +kernel
theorem dX4_blows_40 : decode cX4_blows 40 = .ok (.goto (-31), 3) := by decide +kernel
theorem dX4_blows_43 : decode cX4_blows 43 = .ok (.iload_n 2, 1) := by decide +kernel
theorem dX4_blows_44 : decode cX4_blows 44 = .ok (.ireturn, 1) := by decide +kernel
set_option maxRecDepth 20000 in
theorem ggX4_years_X4_in : GoodIn wsX4_years wsX4_in := goodIn_r _ [8] (by decide +kernel) (by decide +kernel)
set_option maxRecDepth 20000 in
theorem gX4_years_X4_in : GoodIn wsX4_years (va_wsS RX4 51 yX4_in wsX4_in) := goodIn_app (goodIn_of _ (by decide +kernel)) ggX4_years_X4_in
set_option maxRecDepth 20000 in
theorem ggX4_years_X4_finds : GoodIn wsX4_years wsX4_finds := goodIn_r _ [12, 13, 2, 74, 75, 76, 77, 78, 79, 80, 81, 82, 83, 84, 85, 86, 87, 88, 89, 90, 91, 92] (by decide +kernel) (by decide +kernel)
set_option maxRecDepth 20000 in
theorem gX4_years_X4_finds : GoodIn wsX4_years (wsV RX4 77 RX4 yX4_finds wsX4_finds) := goodIn_app (goodIn_of _ (by decide +kernel)) ggX4_years_X4_finds
set_option maxRecDepth 20000 in
theorem ggX4_years_X4_yearsGo : GoodIn wsX4_years wsX4_yearsGo := goodIn_r _ [17, 18, 19, 20, 7, 21, 3, 22, 23, 24, 25, 26, 27, 28, 29, 30, 31, 32, 33, 34, 35, 36, 37, 38, 39, 40, 41, 42, 43, 44, 45, 46, 47, 48, 49, 50, 51, 52, 53, 54, 55, 56, 57, 58, 59, 60, 61, 62, 63, 64, 65, 74, 75, 76, 77, 78, 79, 80, 81, 82, 83, 84, 85, 86, 87, 88, 89, 90, 91, 92] (by decide +kernel) (by decide +kernel)
set_option maxRecDepth 20000 in
theorem gX4_years_X4_yearsGo : GoodIn wsX4_years (wsV RX4 140 RX4 yX4_yearsGo wsX4_yearsGo) := goodIn_app (goodIn_of _ (by decide +kernel)) ggX4_years_X4_yearsGo
set_option maxRecDepth 20000 in
theorem ggX4_years_X4_atHome : GoodIn wsX4_years wsX4_atHome := goodIn_r _ [69, 70, 71, 72, 7, 73, 46, 47, 48, 49, 50, 51, 52, 53, 26, 27, 28, 29, 3, 23, 24, 25, 74, 75, 76, 77, 78, 79, 80, 81, 82, 83, 84, 85, 86, 87, 88, 89, 90, 91, 92] (by decide +kernel) (by decide +kernel)
set_option maxRecDepth 20000 in
theorem gX4_years_X4_atHome : GoodIn wsX4_years (wsV RX4 144 RX4 yX4_atHome wsX4_atHome) := goodIn_app (goodIn_of _ (by decide +kernel)) ggX4_years_X4_atHome
theorem dX4_years_0 : decode cX4_years 0 = .ok (.iload_n 1, 1) := by decide +kernel
theorem dX4_years_1 : decode cX4_years 1 = .ok (.i2l, 1) := by decide +kernel
theorem dX4_years_2 : decode cX4_years 2 = .ok (.lconst 1, 1) := by decide +kernel
theorem dX4_years_3 : decode cX4_years 3 = .ok (.ldc2_w 138, 3) := by decide +kernel
theorem dX4_years_6 : decode cX4_years 6 = .ok (.invokestatic 51, 3) := by decide +kernel
theorem dX4_years_9 : decode cX4_years 9 = .ok (.ifCond .ne 10, 3) := by decide +kernel
theorem dX4_years_12 : decode cX4_years 12 = .ok (.aload_n 0, 1) := by decide +kernel
theorem dX4_years_13 : decode cX4_years 13 = .ok (.ldc 48, 2) := by decide +kernel
theorem dX4_years_15 : decode cX4_years 15 = .ok (.invokevirtual 77, 3) := by decide +kernel
theorem dX4_years_18 : decode cX4_years 18 = .ok (.ireturn, 1) := by decide +kernel
theorem dX4_years_19 : decode cX4_years 19 = .ok (.aload_n 0, 1) := by decide +kernel
theorem dX4_years_20 : decode cX4_years 20 = .ok (.getfield 7, 3) := by decide +kernel
theorem dX4_years_23 : decode cX4_years 23 = .ok (.iconst 0, 1) := by decide +kernel
theorem dX4_years_24 : decode cX4_years 24 = .ok (.iaload, 1) := by decide +kernel
theorem dX4_years_25 : decode cX4_years 25 = .ok (.iload_n 1, 1) := by decide +kernel
theorem dX4_years_26 : decode cX4_years 26 = .ok (.iadd, 1) := by decide +kernel
theorem dX4_years_27 : decode cX4_years 27 = .ok (.sipush 9999, 3) := by decide +kernel
theorem dX4_years_30 : decode cX4_years 30 = .ok (.if_icmp .le 10, 3) := by decide +kernel
theorem dX4_years_33 : decode cX4_years 33 = .ok (.aload_n 0, 1) := by decide +kernel
theorem dX4_years_34 : decode cX4_years 34 = .ok (.ldc 117, 2) := by decide +kernel
theorem dX4_years_36 : decode cX4_years 36 = .ok (.invokevirtual 77, 3) := by decide +kernel
theorem dX4_years_39 : decode cX4_years 39 = .ok (.ireturn, 1) := by decide +kernel
theorem dX4_years_40 : decode cX4_years 40 = .ok (.aload_n 0, 1) := by decide +kernel
theorem dX4_years_41 : decode cX4_years 41 = .ok (.iload_n 1, 1) := by decide +kernel
theorem dX4_years_42 : decode cX4_years 42 = .ok (.invokevirtual 140, 3) := by decide +kernel
theorem dX4_years_45 : decode cX4_years 45 = .ok (.aload_n 0, 1) := by decide +kernel
theorem dX4_years_46 : decode cX4_years 46 = .ok (.invokevirtual 144, 3) := by decide +kernel
theorem dX4_years_49 : decode cX4_years 49 = .ok (.ireturn, 1) := by decide +kernel
set_option maxRecDepth 20000 in
theorem ggX4_gale_X4_blows : GoodIn wsX4_gale wsX4_blows := goodIn_r _ [5, 6, 7, 8, 4, 9, 10, 11, 12, 13, 14, 15, 16, 17, 18, 19, 20, 21, 22, 23, 24, 25, 26, 27, 28, 29, 30, 31, 32, 33, 34, 35, 36, 37, 38, 39, 40, 41, 42, 43, 44, 45, 46, 47, 48, 49, 50, 51, 52, 53, 54, 55, 56] (by decide +kernel) (by decide +kernel)
set_option maxRecDepth 20000 in
theorem gX4_gale_X4_blows : GoodIn wsX4_gale (wsV RX4 147 RX4 yX4_blows wsX4_blows) := goodIn_app (goodIn_of _ (by decide +kernel)) ggX4_gale_X4_blows
theorem dX4_gale_0 : decode cX4_gale 0 = .ok (.aload_n 0, 1) := by decide +kernel
theorem dX4_gale_1 : decode cX4_gale 1 = .ok (.invokevirtual 147, 3) := by decide +kernel
theorem dX4_gale_4 : decode cX4_gale 4 = .ok (.ireturn, 1) := by decide +kernel
set_option maxRecDepth 20000 in
theorem ggX4_knownTogether_X4_knownBy : GoodIn wsX4_knownTogether wsX4_knownBy := goodIn_r _ [5, 6, 7, 8, 4, 9, 10, 11, 12, 13, 14, 15, 16, 17, 18, 19, 20, 21, 25, 26, 27, 28, 29, 30, 31, 32, 33, 34, 35, 36, 37, 38, 39, 40, 41, 42, 43] (by decide +kernel) (by decide +kernel)
set_option maxRecDepth 20000 in
theorem gX4_knownTogether_X4_knownBy : GoodIn wsX4_knownTogether (wsV RX4 91 RX4 yX4_knownBy wsX4_knownBy) := goodIn_app (goodIn_of _ (by decide +kernel)) ggX4_knownTogether_X4_knownBy
set_option maxRecDepth 20000 in
theorem ggX4_knownTogether_X4_ones : GoodIn wsX4_knownTogether wsX4_ones := goodIn_r _ [24] (by decide +kernel) (by decide +kernel)
set_option maxRecDepth 20000 in
theorem gX4_knownTogether_X4_ones : GoodIn wsX4_knownTogether (va_wsS RX4 150 yX4_ones wsX4_ones) := goodIn_app (goodIn_of _ (by decide +kernel)) ggX4_knownTogether_X4_ones
theorem dX4_knownTogether_0 : decode cX4_knownTogether 0 = .ok (.iconst 0, 1) := by decide +kernel
theorem dX4_knownTogether_1 : decode cX4_knownTogether 1 = .ok (.istore_n 1, 1) := by decide +kernel
theorem dX4_knownTogether_2 : decode cX4_knownTogether 2 = .ok (.iconst 0, 1) := by decide +kernel
theorem dX4_knownTogether_3 : decode cX4_knownTogether 3 = .ok (.istore_n 2, 1) := by decide +kernel
theorem dX4_knownTogether_4 : decode cX4_knownTogether 4 = .ok (.iload_n 2, 1) := by decide +kernel
theorem dX4_knownTogether_5 : decode cX4_knownTogether 5 = .ok (.bipush 12, 2) := by decide +kernel
theorem dX4_knownTogether_7 : decode cX4_knownTogether 7 = .ok (.if_icmp .ge 20, 3) := by decide +kernel
theorem dX4_knownTogether_10 : decode cX4_knownTogether 10 = .ok (.iload_n 1, 1) := by decide +kernel
theorem dX4_knownTogether_11 : decode cX4_knownTogether 11 = .ok (.aload_n 0, 1) := by decide +kernel
theorem dX4_knownTogether_12 : decode cX4_knownTogether 12 = .ok (.iload_n 2, 1) := by decide +kernel
theorem dX4_knownTogether_13 : decode cX4_knownTogether 13 = .ok (.invokevirtual 91, 3) := by decide +kernel
theorem dX4_knownTogether_16 : decode cX4_knownTogether 16 = .ok (.invokestatic 150, 3) := by decide +kernel
theorem dX4_knownTogether_19 : decode cX4_knownTogether 19 = .ok (.iadd, 1) := by decide +kernel
theorem dX4_knownTogether_20 : decode cX4_knownTogether 20 = .ok (.istore_n 1, 1) := by decide +kernel
theorem dX4_knownTogether_21 : decode cX4_knownTogether 21 = .ok (.iinc 2 1, 3) := by decide +kernel
theorem dX4_knownTogether_24 : decode cX4_knownTogether 24 = .ok (.goto (-20), 3) := by decide +kernel
theorem dX4_knownTogether_27 : decode cX4_knownTogether 27 = .ok (.iload_n 1, 1) := by decide +kernel
theorem dX4_knownTogether_28 : decode cX4_knownTogether 28 = .ok (.ireturn, 1) := by decide +kernel
set_option maxRecDepth 20000 in
theorem ggX4_ages_X4_its : GoodIn wsX4_ages wsX4_its := goodIn_r _ [5, 6, 7, 8, 4, 9, 10, 11, 12, 13, 14, 15, 16, 17, 18, 19, 20, 21, 22, 23, 24, 25, 26, 27, 28] (by decide +kernel) (by decide +kernel)
set_option maxRecDepth 20000 in
theorem gX4_ages_X4_its : GoodIn wsX4_ages (wsV RX4 63 RX4 yX4_its wsX4_its) := goodIn_app (goodIn_of _ (by decide +kernel)) ggX4_ages_X4_its
theorem dX4_ages_0 : decode cX4_ages 0 = .ok (.iconst 0, 1) := by decide +kernel
theorem dX4_ages_1 : decode cX4_ages 1 = .ok (.istore_n 1, 1) := by decide +kernel
theorem dX4_ages_2 : decode cX4_ages 2 = .ok (.iconst 0, 1) := by decide +kernel
theorem dX4_ages_3 : decode cX4_ages 3 = .ok (.istore_n 2, 1) := by decide +kernel
theorem dX4_ages_4 : decode cX4_ages 4 = .ok (.iload_n 2, 1) := by decide +kernel
theorem dX4_ages_5 : decode cX4_ages 5 = .ok (.bipush 12, 2) := by decide +kernel
theorem dX4_ages_7 : decode cX4_ages 7 = .ok (.if_icmp .ge 18, 3) := by decide +kernel
theorem dX4_ages_10 : decode cX4_ages 10 = .ok (.iload_n 1, 1) := by decide +kernel
theorem dX4_ages_11 : decode cX4_ages 11 = .ok (.aload_n 0, 1) := by decide +kernel
theorem dX4_ages_12 : decode cX4_ages 12 = .ok (.iload_n 2, 1) := by decide +kernel
theorem dX4_ages_13 : decode cX4_ages 13 = .ok (.iconst 1, 1) := by decide +kernel
theorem dX4_ages_14 : decode cX4_ages 14 = .ok (.invokevirtual 63, 3) := by decide +kernel
theorem dX4_ages_17 : decode cX4_ages 17 = .ok (.iadd, 1) := by decide +kernel
theorem dX4_ages_18 : decode cX4_ages 18 = .ok (.istore_n 1, 1) := by decide +kernel
theorem dX4_ages_19 : decode cX4_ages 19 = .ok (.iinc 2 1, 3) := by decide +kernel
theorem dX4_ages_22 : decode cX4_ages 22 = .ok (.goto (-18), 3) := by decide +kernel
theorem dX4_ages_25 : decode cX4_ages 25 = .ok (.iload_n 1, 1) := by decide +kernel
theorem dX4_ages_26 : decode cX4_ages 26 = .ok (.ireturn, 1) := by decide +kernel
set_option maxRecDepth 20000 in
theorem ggX4_now_X4_atHome : GoodIn wsX4_now wsX4_atHome := goodIn_r _ [7, 8, 9, 10, 6, 11, 12, 13, 14, 15, 16, 17, 18, 19, 20, 21, 22, 23, 1, 24, 25, 26, 47, 48, 49, 50, 51, 52, 53, 54, 55, 56, 57, 58, 59, 60, 61, 62, 63, 64, 65] (by decide +kernel) (by decide +kernel)
set_option maxRecDepth 20000 in
theorem gX4_now_X4_atHome : GoodIn wsX4_now (wsV RX4 144 RX4 yX4_atHome wsX4_atHome) := goodIn_app (goodIn_of _ (by decide +kernel)) ggX4_now_X4_atHome
set_option maxRecDepth 20000 in
theorem ggX4_now_X4_knownAtAll : GoodIn wsX4_now wsX4_knownAtAll := goodIn_r _ [30, 8, 9, 10, 6, 11, 12, 13, 14, 15, 16, 17, 18, 19, 20, 21, 22, 23, 1, 24, 25, 26, 47, 48, 49, 50, 51, 52, 53, 54, 55, 56, 57, 58, 59, 60, 61, 62, 63, 64, 65] (by decide +kernel) (by decide +kernel)
set_option maxRecDepth 20000 in
theorem gX4_now_X4_knownAtAll : GoodIn wsX4_now (wsV RX4 134 RX4 yX4_knownAtAll wsX4_knownAtAll) := goodIn_app (goodIn_of _ (by decide +kernel)) ggX4_now_X4_knownAtAll
set_option maxRecDepth 20000 in
theorem ggX4_now_X4_knownTogether : GoodIn wsX4_now wsX4_knownTogether := goodIn_r _ [34, 8, 9, 10, 6, 11, 12, 13, 14, 15, 16, 17, 18, 19, 20, 21, 22, 23, 1, 24, 25, 26, 35, 36, 37, 47, 48, 49, 50, 51, 52, 53, 54, 55, 56, 57, 58, 59, 60, 61, 62, 63, 64, 65] (by decide +kernel) (by decide +kernel)
set_option maxRecDepth 20000 in
theorem gX4_now_X4_knownTogether : GoodIn wsX4_now (wsV RX4 153 RX4 yX4_knownTogether wsX4_knownTogether) := goodIn_app (goodIn_of _ (by decide +kernel)) ggX4_now_X4_knownTogether
set_option maxRecDepth 20000 in
theorem ggX4_now_X4_ages : GoodIn wsX4_now wsX4_ages := goodIn_r _ [41, 20, 21, 22, 6, 23, 1, 24, 25, 26, 47, 48, 49, 50, 51, 52, 53, 54, 55, 56, 57, 58, 59, 60, 61, 62, 63, 64, 65] (by decide +kernel) (by decide +kernel)
set_option maxRecDepth 20000 in
theorem gX4_now_X4_ages : GoodIn wsX4_now (wsV RX4 156 RX4 yX4_ages wsX4_ages) := goodIn_app (goodIn_of _ (by decide +kernel)) ggX4_now_X4_ages
set_option maxRecDepth 20000 in
theorem ggX4_now_X4_finds : GoodIn wsX4_now wsX4_finds := goodIn_r _ [45, 46, 2, 47, 48, 49, 50, 51, 52, 53, 54, 55, 56, 57, 58, 59, 60, 61, 62, 63, 64, 65] (by decide +kernel) (by decide +kernel)
set_option maxRecDepth 20000 in
theorem gX4_now_X4_finds : GoodIn wsX4_now (wsV RX4 77 RX4 yX4_finds wsX4_finds) := goodIn_app (goodIn_of _ (by decide +kernel)) ggX4_now_X4_finds
theorem dX4_now_0 : decode cX4_now 0 = .ok (.iload_n 1, 1) := by decide +kernel
theorem dX4_now_1 : decode cX4_now 1 = .ok (.tableswitch 73 0 5 #[39, 46, 53, 58, 63, 68], 39) := by decide +kernel
theorem dX4_now_40 : decode cX4_now 40 = .ok (.aload_n 0, 1) := by decide +kernel
theorem dX4_now_41 : decode cX4_now 41 = .ok (.getfield 7, 3) := by decide +kernel
theorem dX4_now_44 : decode cX4_now 44 = .ok (.iconst 0, 1) := by decide +kernel
theorem dX4_now_45 : decode cX4_now 45 = .ok (.iaload, 1) := by decide +kernel
theorem dX4_now_46 : decode cX4_now 46 = .ok (.ireturn, 1) := by decide +kernel
theorem dX4_now_47 : decode cX4_now 47 = .ok (.aload_n 0, 1) := by decide +kernel
theorem dX4_now_48 : decode cX4_now 48 = .ok (.getfield 7, 3) := by decide +kernel
theorem dX4_now_51 : decode cX4_now 51 = .ok (.iconst 1, 1) := by decide +kernel
theorem dX4_now_52 : decode cX4_now 52 = .ok (.iaload, 1) := by decide +kernel
theorem dX4_now_53 : decode cX4_now 53 = .ok (.ireturn, 1) := by decide +kernel
theorem dX4_now_54 : decode cX4_now 54 = .ok (.aload_n 0, 1) := by decide +kernel
theorem dX4_now_55 : decode cX4_now 55 = .ok (.invokevirtual 144, 3) := by decide +kernel
theorem dX4_now_58 : decode cX4_now 58 = .ok (.ireturn, 1) := by decide +kernel
theorem dX4_now_59 : decode cX4_now 59 = .ok (.aload_n 0, 1) := by decide +kernel
theorem dX4_now_60 : decode cX4_now 60 = .ok (.invokevirtual 134, 3) := by decide +kernel
theorem dX4_now_63 : decode cX4_now 63 = .ok (.ireturn, 1) := by decide +kernel
theorem dX4_now_64 : decode cX4_now 64 = .ok (.aload_n 0, 1) := by decide +kernel
theorem dX4_now_65 : decode cX4_now 65 = .ok (.invokevirtual 153, 3) := by decide +kernel
theorem dX4_now_68 : decode cX4_now 68 = .ok (.ireturn, 1) := by decide +kernel
theorem dX4_now_69 : decode cX4_now 69 = .ok (.aload_n 0, 1) := by decide +kernel
theorem dX4_now_70 : decode cX4_now 70 = .ok (.invokevirtual 156, 3) := by decide +kernel
theorem dX4_now_73 : decode cX4_now 73 = .ok (.ireturn, 1) := by decide +kernel
theorem dX4_now_74 : decode cX4_now 74 = .ok (.aload_n 0, 1) := by decide +kernel
theorem dX4_now_75 : decode cX4_now 75 = .ok (.ldc 48, 2) := by decide +kernel
theorem dX4_now_77 : decode cX4_now 77 = .ok (.invokevirtual 77, 3) := by decide +kernel
theorem dX4_now_80 : decode cX4_now 80 = .ok (.ireturn, 1) := by decide +kernel
set_option maxRecDepth 20000 in
theorem ggX4_on_X4_isTree : GoodIn wsX4_on wsX4_isTree := goodIn_r _ [6, 7, 8, 9, 5, 10] (by decide +kernel) (by decide +kernel)
set_option maxRecDepth 20000 in
theorem gX4_on_X4_isTree : GoodIn wsX4_on (va_wsS RX4 73 yX4_isTree wsX4_isTree) := goodIn_app (goodIn_of _ (by decide +kernel)) ggX4_on_X4_isTree
set_option maxRecDepth 20000 in
theorem ggX4_on_X4_in : GoodIn wsX4_on wsX4_in := goodIn_r _ [10] (by decide +kernel) (by decide +kernel)
set_option maxRecDepth 20000 in
theorem gX4_on_X4_in : GoodIn wsX4_on (va_wsS RX4 51 yX4_in wsX4_in) := goodIn_app (goodIn_of _ (by decide +kernel)) ggX4_on_X4_in
set_option maxRecDepth 20000 in
theorem ggX4_on_X4_finds : GoodIn wsX4_on wsX4_finds := goodIn_r _ [14, 15, 2, 82, 83, 84, 85, 86, 87, 88, 89, 90, 91, 92, 93, 94, 95, 96, 97, 98, 99, 100] (by decide +kernel) (by decide +kernel)
set_option maxRecDepth 20000 in
theorem gX4_on_X4_finds : GoodIn wsX4_on (wsV RX4 77 RX4 yX4_finds wsX4_finds) := goodIn_app (goodIn_of _ (by decide +kernel)) ggX4_on_X4_finds
set_option maxRecDepth 20000 in
theorem ggX4_on_X4_laysAside : GoodIn wsX4_on wsX4_laysAside := goodIn_r _ [19, 20, 21, 82, 83, 84, 85, 86, 87, 88, 89, 90, 91, 92, 93, 94, 95, 96, 97, 98, 99, 100] (by decide +kernel) (by decide +kernel)
set_option maxRecDepth 20000 in
theorem gX4_on_X4_laysAside : GoodIn wsX4_on (wsV RX4 161 RX4 yX4_laysAside wsX4_laysAside) := goodIn_app (goodIn_of _ (by decide +kernel)) ggX4_on_X4_laysAside
set_option maxRecDepth 20000 in
theorem ggX4_on_X4_yearsGo : GoodIn wsX4_on wsX4_yearsGo := goodIn_r _ [25, 26, 27, 28, 5, 29, 21, 30, 31, 32, 33, 34, 35, 36, 37, 38, 39, 40, 41, 42, 43, 44, 45, 46, 47, 48, 49, 50, 51, 52, 53, 54, 55, 56, 57, 58, 59, 60, 61, 62, 63, 64, 65, 66, 67, 68, 69, 70, 71, 72, 73, 82, 83, 84, 85, 86, 87, 88, 89, 90, 91, 92, 93, 94, 95, 96, 97, 98, 99, 100] (by decide +kernel) (by decide +kernel)
set_option maxRecDepth 20000 in
theorem gX4_on_X4_yearsGo : GoodIn wsX4_on (wsV RX4 140 RX4 yX4_yearsGo wsX4_yearsGo) := goodIn_app (goodIn_of _ (by decide +kernel)) ggX4_on_X4_yearsGo
set_option maxRecDepth 20000 in
theorem ggX4_on_X4_knownBy : GoodIn wsX4_on wsX4_knownBy := goodIn_r _ [77, 54, 55, 56, 5, 57, 58, 59, 60, 61, 34, 35, 36, 37, 21, 31, 32, 33, 82, 83, 84, 85, 86, 87, 88, 89, 90, 91, 92, 93, 94, 95, 96, 97, 98, 99, 100] (by decide +kernel) (by decide +kernel)
set_option maxRecDepth 20000 in
theorem gX4_on_X4_knownBy : GoodIn wsX4_on (wsV RX4 91 RX4 yX4_knownBy wsX4_knownBy) := goodIn_app (goodIn_of _ (by decide +kernel)) ggX4_on_X4_knownBy
set_option maxRecDepth 20000 in
theorem ggX4_on_X4_takesBack : GoodIn wsX4_on wsX4_takesBack := goodIn_r _ [81, 21, 20, 82, 83, 84, 85, 86, 87, 88, 89, 90, 91, 92, 93, 94, 95, 96, 97, 98, 99, 100] (by decide +kernel) (by decide +kernel)
set_option maxRecDepth 20000 in
theorem gX4_on_X4_takesBack : GoodIn wsX4_on (wsV RX4 164 RX4 yX4_takesBack wsX4_takesBack) := goodIn_app (goodIn_of _ (by decide +kernel)) ggX4_on_X4_takesBack
theorem dX4_on_0 : decode cX4_on 0 = .ok (.iload_n 1, 1) := by decide +kernel
theorem dX4_on_1 : decode cX4_on 1 = .ok (.invokestatic 73, 3) := by decide +kernel
theorem dX4_on_4 : decode cX4_on 4 = .ok (.ifCond .eq 15, 3) := by decide +kernel
theorem dX4_on_7 : decode cX4_on 7 = .ok (.iload_n 2, 1) := by decide +kernel
theorem dX4_on_8 : decode cX4_on 8 = .ok (.i2l, 1) := by decide +kernel
theorem dX4_on_9 : decode cX4_on 9 = .ok (.lconst 0, 1) := by decide +kernel
theorem dX4_on_10 : decode cX4_on 10 = .ok (.ldc2_w 159, 3) := by decide +kernel
theorem dX4_on_13 : decode cX4_on 13 = .ok (.invokestatic 51, 3) := by decide +kernel
theorem dX4_on_16 : decode cX4_on 16 = .ok (.ifCond .ne 10, 3) := by decide +kernel
theorem dX4_on_19 : decode cX4_on 19 = .ok (.aload_n 0, 1) := by decide +kernel
theorem dX4_on_20 : decode cX4_on 20 = .ok (.ldc 48, 2) := by decide +kernel
theorem dX4_on_22 : decode cX4_on 22 = .ok (.invokevirtual 77, 3) := by decide +kernel
theorem dX4_on_25 : decode cX4_on 25 = .ok (.ireturn, 1) := by decide +kernel
theorem dX4_on_26 : decode cX4_on 26 = .ok (.aload_n 0, 1) := by decide +kernel
theorem dX4_on_27 : decode cX4_on 27 = .ok (.invokevirtual 161, 3) := by decide +kernel
theorem dX4_on_30 : decode cX4_on 30 = .ok (.aload_n 0, 1) := by decide +kernel
theorem dX4_on_31 : decode cX4_on 31 = .ok (.iload_n 2, 1) := by decide +kernel
theorem dX4_on_32 : decode cX4_on 32 = .ok (.invokevirtual 140, 3) := by decide +kernel
theorem dX4_on_35 : decode cX4_on 35 = .ok (.aload_n 0, 1) := by decide +kernel
theorem dX4_on_36 : decode cX4_on 36 = .ok (.aload_n 0, 1) := by decide +kernel
theorem dX4_on_37 : decode cX4_on 37 = .ok (.iload_n 1, 1) := by decide +kernel
theorem dX4_on_38 : decode cX4_on 38 = .ok (.invokevirtual 91, 3) := by decide +kernel
theorem dX4_on_41 : decode cX4_on 41 = .ok (.invokevirtual 164, 3) := by decide +kernel
theorem dX4_on_44 : decode cX4_on 44 = .ok (.ireturn, 1) := by decide +kernel
set_option maxRecDepth 20000 in
theorem ggX4_knownIn_X4_laysAside : GoodIn wsX4_knownIn wsX4_laysAside := goodIn_r _ [5, 6, 7, 60, 61, 62, 63, 64, 65, 66, 67, 68, 69, 70, 71, 72, 73, 74, 75, 76, 77, 78] (by decide +kernel) (by decide +kernel)
set_option maxRecDepth 20000 in
theorem gX4_knownIn_X4_laysAside : GoodIn wsX4_knownIn (wsV RX4 161 RX4 yX4_laysAside wsX4_laysAside) := goodIn_app (goodIn_of _ (by decide +kernel)) ggX4_knownIn_X4_laysAside
set_option maxRecDepth 20000 in
theorem ggX4_knownIn_X4_isKnown : GoodIn wsX4_knownIn wsX4_isKnown := goodIn_r _ [11, 12, 13, 14, 4, 15, 16, 17, 18, 19, 7, 20, 21, 22, 60, 61, 62, 63, 64, 65, 66, 67, 68, 69, 70, 71, 72, 73, 74, 75, 76, 77, 78] (by decide +kernel) (by decide +kernel)
set_option maxRecDepth 20000 in
theorem gX4_knownIn_X4_isKnown : GoodIn wsX4_knownIn (wsV RX4 69 RX4 yX4_isKnown wsX4_isKnown) := goodIn_app (goodIn_of _ (by decide +kernel)) ggX4_knownIn_X4_isKnown
set_option maxRecDepth 20000 in
theorem ggX4_knownIn_X4_year : GoodIn wsX4_knownIn wsX4_year := goodIn_r _ [26, 7, 27, 20, 21, 4, 22, 16, 17, 18, 19, 28, 29, 30, 31, 32, 33, 34, 35, 36, 37, 38, 39, 40, 41, 42, 43, 8, 9, 10, 11, 12, 13, 14, 15, 44, 45, 46, 47, 48, 49, 50, 51, 52, 53, 54, 55, 60, 61, 62, 63, 64, 65, 66, 67, 68, 69, 70, 71, 72, 73, 74, 75, 76, 77, 78] (by decide +kernel) (by decide +kernel)
set_option maxRecDepth 20000 in
theorem gX4_knownIn_X4_year : GoodIn wsX4_knownIn (wsV RX4 131 RX4 yX4_year wsX4_year) := goodIn_app (goodIn_of _ (by decide +kernel)) ggX4_knownIn_X4_year
set_option maxRecDepth 20000 in
theorem ggX4_knownIn_X4_takesBack : GoodIn wsX4_knownIn wsX4_takesBack := goodIn_r _ [59, 7, 6, 60, 61, 62, 63, 64, 65, 66, 67, 68, 69, 70, 71, 72, 73, 74, 75, 76, 77, 78] (by decide +kernel) (by decide +kernel)
set_option maxRecDepth 20000 in
theorem gX4_knownIn_X4_takesBack : GoodIn wsX4_knownIn (wsV RX4 164 RX4 yX4_takesBack wsX4_takesBack) := goodIn_app (goodIn_of _ (by decide +kernel)) ggX4_knownIn_X4_takesBack
theorem dX4_knownIn_0 : decode cX4_knownIn 0 = .ok (.aload_n 0, 1) := by decide +kernel
theorem dX4_knownIn_1 : decode cX4_knownIn 1 = .ok (.invokevirtual 161, 3) := by decide +kernel
theorem dX4_knownIn_4 : decode cX4_knownIn 4 = .ok (.iconst 0, 1) := by decide +kernel
theorem dX4_knownIn_5 : decode cX4_knownIn 5 = .ok (.istore_n 3, 1) := by decide +kernel
theorem dX4_knownIn_6 : decode cX4_knownIn 6 = .ok (.iload_n 3, 1) := by decide +kernel
theorem dX4_knownIn_7 : decode cX4_knownIn 7 = .ok (.sipush 200, 3) := by decide +kernel
theorem dX4_knownIn_10 : decode cX4_knownIn 10 = .ok (.if_icmp .gt 49, 3) := by decide +kernel
theorem dX4_knownIn_13 : decode cX4_knownIn 13 = .ok (.iload_n 1, 1) := by decide +kernel
theorem dX4_knownIn_14 : decode cX4_knownIn 14 = .ok (.ifCond .ge 26, 3) := by decide +kernel
theorem dX4_knownIn_17 : decode cX4_knownIn 17 = .ok (.aload_n 0, 1) := by decide +kernel
theorem dX4_knownIn_18 : decode cX4_knownIn 18 = .ok (.bipush 10, 2) := by decide +kernel
theorem dX4_knownIn_20 : decode cX4_knownIn 20 = .ok (.iload_n 2, 1) := by decide +kernel
theorem dX4_knownIn_21 : decode cX4_knownIn 21 = .ok (.invokevirtual 69, 3) := by decide +kernel
theorem dX4_knownIn_24 : decode cX4_knownIn 24 = .ok (.ifCond .ne 35, 3) := by decide +kernel
theorem dX4_knownIn_27 : decode cX4_knownIn 27 = .ok (.aload_n 0, 1) := by decide +kernel
theorem dX4_knownIn_28 : decode cX4_knownIn 28 = .ok (.bipush 11, 2) := by decide +kernel
theorem dX4_knownIn_30 : decode cX4_knownIn 30 = .ok (.iload_n 2, 1) := by decide +kernel
theorem dX4_knownIn_31 : decode cX4_knownIn 31 = .ok (.invokevirtual 69, 3) := by decide +kernel
theorem dX4_knownIn_34 : decode cX4_knownIn 34 = .ok (.ifCond .eq 15, 3) := by decide +kernel
theorem dX4_knownIn_37 : decode cX4_knownIn 37 = .ok (.goto 22, 3) := by decide +kernel
theorem dX4_knownIn_40 : decode cX4_knownIn 40 = .ok (.aload_n 0, 1) := by decide +kernel
theorem dX4_knownIn_41 : decode cX4_knownIn 41 = .ok (.iload_n 1, 1) := by decide +kernel
theorem dX4_knownIn_42 : decode cX4_knownIn 42 = .ok (.iload_n 2, 1) := by decide +kernel
theorem dX4_knownIn_43 : decode cX4_knownIn 43 = .ok (.invokevirtual 69, 3) := by decide +kernel
theorem dX4_knownIn_46 : decode cX4_knownIn 46 = .ok (.ifCond .ne 13, 3) := by decide +kernel
theorem dX4_knownIn_49 : decode cX4_knownIn 49 = .ok (.aload_n 0, 1) := by decide +kernel
theorem dX4_knownIn_50 : decode cX4_knownIn 50 = .ok (.invokevirtual 131, 3) := by decide +kernel
theorem dX4_knownIn_53 : decode cX4_knownIn 53 = .ok (.iinc 3 1, 3) := by decide +kernel
theorem dX4_knownIn_56 : decode cX4_knownIn 56 = .ok (.goto (-50), 3) := by decide +kernel
theorem dX4_knownIn_59 : decode cX4_knownIn 59 = .ok (.aload_n 0, 1) := by decide +kernel
theorem dX4_knownIn_60 : decode cX4_knownIn 60 = .ok (.iload_n 3, 1) := by decide +kernel
theorem dX4_knownIn_61 : decode cX4_knownIn 61 = .ok (.invokevirtual 164, 3) := by decide +kernel
theorem dX4_knownIn_64 : decode cX4_knownIn 64 = .ok (.ireturn, 1) := by decide +kernel
set_option maxRecDepth 20000 in
theorem ggX4_orNone_X4_finds : GoodIn wsX4_orNone wsX4_finds := goodIn_r _ [6, 7, 8, 9, 10, 11, 12, 13, 14, 15, 16, 17, 18, 19, 20, 21, 22, 23, 24, 25, 26, 27] (by decide +kernel) (by decide +kernel)
set_option maxRecDepth 20000 in
theorem gX4_orNone_X4_finds : GoodIn wsX4_orNone (wsV RX4 77 RX4 yX4_finds wsX4_finds) := goodIn_app (goodIn_of _ (by decide +kernel)) ggX4_orNone_X4_finds
theorem dX4_orNone_0 : decode cX4_orNone 0 = .ok (.iload_n 1, 1) := by decide +kernel
theorem dX4_orNone_1 : decode cX4_orNone 1 = .ok (.sipush 200, 3) := by decide +kernel
theorem dX4_orNone_4 : decode cX4_orNone 4 = .ok (.if_icmp .le 12, 3) := by decide +kernel
theorem dX4_orNone_7 : decode cX4_orNone 7 = .ok (.aload_n 0, 1) := by decide +kernel
theorem dX4_orNone_8 : decode cX4_orNone 8 = .ok (.ldc 97, 2) := by decide +kernel
theorem dX4_orNone_10 : decode cX4_orNone 10 = .ok (.invokevirtual 77, 3) := by decide +kernel
theorem dX4_orNone_13 : decode cX4_orNone 13 = .ok (.goto 4, 3) := by decide +kernel
theorem dX4_orNone_16 : decode cX4_orNone 16 = .ok (.iload_n 1, 1) := by decide +kernel
theorem dX4_orNone_17 : decode cX4_orNone 17 = .ok (.ireturn, 1) := by decide +kernel
set_option maxRecDepth 20000 in
theorem ggX4_when_X4_isTree : GoodIn wsX4_when wsX4_isTree := goodIn_r _ [5, 6, 7, 8, 4, 9] (by decide +kernel) (by decide +kernel)
set_option maxRecDepth 20000 in
theorem gX4_when_X4_isTree : GoodIn wsX4_when (va_wsS RX4 73 yX4_isTree wsX4_isTree) := goodIn_app (goodIn_of _ (by decide +kernel)) ggX4_when_X4_isTree
set_option maxRecDepth 20000 in
theorem ggX4_when_X4_isMessage : GoodIn wsX4_when wsX4_isMessage := goodIn_r _ [12, 13, 7, 8, 4, 9] (by decide +kernel) (by decide +kernel)
set_option maxRecDepth 20000 in
theorem gX4_when_X4_isMessage : GoodIn wsX4_when (va_wsS RX4 94 yX4_isMessage wsX4_isMessage) := goodIn_app (goodIn_of _ (by decide +kernel)) ggX4_when_X4_isMessage
set_option maxRecDepth 20000 in
theorem ggX4_when_X4_knownIn : GoodIn wsX4_when wsX4_knownIn := goodIn_r _ [17, 18, 19, 20, 4, 21, 22, 23, 24, 25, 26, 27, 28, 29, 30, 31, 32, 33, 34, 35, 36, 37, 38, 39, 40, 41, 42, 43, 44, 45, 46, 47, 48, 49, 50, 51, 52, 53, 54, 55, 56, 57, 58, 59, 60, 61, 62, 63, 64, 65, 66, 67, 68, 69, 70, 71, 72, 73, 74, 75, 86, 87, 88, 89, 90, 91, 92, 93, 94, 95, 96, 97, 98, 99, 100, 101, 102, 103, 104] (by decide +kernel) (by decide +kernel)
set_option maxRecDepth 20000 in
theorem gX4_when_X4_knownIn : GoodIn wsX4_when (wsV RX4 167 RX4 yX4_knownIn wsX4_knownIn) := goodIn_app (goodIn_of _ (by decide +kernel)) ggX4_when_X4_knownIn
set_option maxRecDepth 20000 in
theorem ggX4_when_X4_orNone : GoodIn wsX4_when wsX4_orNone := goodIn_r _ [79, 80, 81, 82, 83, 4, 84, 85, 1, 86, 87, 88, 89, 90, 91, 92, 93, 94, 95, 96, 97, 98, 99, 100, 101, 102, 103, 104] (by decide +kernel) (by decide +kernel)
set_option maxRecDepth 20000 in
theorem gX4_when_X4_orNone : GoodIn wsX4_when (wsV RX4 170 RX4 yX4_orNone wsX4_orNone) := goodIn_app (goodIn_of _ (by decide +kernel)) ggX4_when_X4_orNone
set_option maxRecDepth 20000 in
theorem ggX4_when_X4_finds : GoodIn wsX4_when wsX4_finds := goodIn_r _ [84, 85, 1, 86, 87, 88, 89, 90, 91, 92, 93, 94, 95, 96, 97, 98, 99, 100, 101, 102, 103, 104] (by decide +kernel) (by decide +kernel)
set_option maxRecDepth 20000 in
theorem gX4_when_X4_finds : GoodIn wsX4_when (wsV RX4 77 RX4 yX4_finds wsX4_finds) := goodIn_app (goodIn_of _ (by decide +kernel)) ggX4_when_X4_finds
theorem dX4_when_0 : decode cX4_when 0 = .ok (.iload_n 1, 1) := by decide +kernel
theorem dX4_when_1 : decode cX4_when 1 = .ok (.invokestatic 73, 3) := by decide +kernel
theorem dX4_when_4 : decode cX4_when 4 = .ok (.ifCond .eq 23, 3) := by decide +kernel
theorem dX4_when_7 : decode cX4_when 7 = .ok (.iload_n 2, 1) := by decide +kernel
theorem dX4_when_8 : decode cX4_when 8 = .ok (.invokestatic 94, 3) := by decide +kernel
theorem dX4_when_11 : decode cX4_when 11 = .ok (.ifCond .eq 16, 3) := by decide +kernel
theorem dX4_when_14 : decode cX4_when 14 = .ok (.aload_n 0, 1) := by decide +kernel
theorem dX4_when_15 : decode cX4_when 15 = .ok (.aload_n 0, 1) := by decide +kernel
theorem dX4_when_16 : decode cX4_when 16 = .ok (.iload_n 1, 1) := by decide +kernel
theorem dX4_when_17 : decode cX4_when 17 = .ok (.iload_n 2, 1) := by decide +kernel
theorem dX4_when_18 : decode cX4_when 18 = .ok (.invokevirtual 167, 3) := by decide +kernel
theorem dX4_when_21 : decode cX4_when 21 = .ok (.invokevirtual 170, 3) := by decide +kernel
theorem dX4_when_24 : decode cX4_when 24 = .ok (.goto 9, 3) := by decide +kernel
theorem dX4_when_27 : decode cX4_when 27 = .ok (.aload_n 0, 1) := by decide +kernel
theorem dX4_when_28 : decode cX4_when 28 = .ok (.ldc 48, 2) := by decide +kernel
theorem dX4_when_30 : decode cX4_when 30 = .ok (.invokevirtual 77, 3) := by decide +kernel
theorem dX4_when_33 : decode cX4_when 33 = .ok (.ireturn, 1) := by decide +kernel
set_option maxRecDepth 20000 in
theorem ggX4_home_X4_isMessage : GoodIn wsX4_home wsX4_isMessage := goodIn_r _ [5, 6, 7, 8, 4, 9] (by decide +kernel) (by decide +kernel)
set_option maxRecDepth 20000 in
theorem gX4_home_X4_isMessage : GoodIn wsX4_home (va_wsS RX4 94 yX4_isMessage wsX4_isMessage) := goodIn_app (goodIn_of _ (by decide +kernel)) ggX4_home_X4_isMessage
set_option maxRecDepth 20000 in
theorem ggX4_home_X4_knownIn : GoodIn wsX4_home wsX4_knownIn := goodIn_r _ [13, 14, 15, 16, 4, 17, 18, 19, 20, 21, 22, 23, 24, 25, 26, 27, 28, 29, 30, 31, 32, 33, 34, 35, 36, 37, 38, 39, 40, 41, 42, 43, 44, 45, 46, 47, 48, 49, 50, 51, 52, 53, 54, 55, 56, 57, 58, 59, 60, 61, 62, 63, 64, 65, 66, 67, 68, 69, 70, 71, 82, 83, 84, 85, 86, 87, 88, 89, 90, 91, 92, 93, 94, 95, 96, 97, 98, 99, 100] (by decide +kernel) (by decide +kernel)
set_option maxRecDepth 20000 in
theorem gX4_home_X4_knownIn : GoodIn wsX4_home (wsV RX4 167 RX4 yX4_knownIn wsX4_knownIn) := goodIn_app (goodIn_of _ (by decide +kernel)) ggX4_home_X4_knownIn
set_option maxRecDepth 20000 in
theorem ggX4_home_X4_orNone : GoodIn wsX4_home wsX4_orNone := goodIn_r _ [75, 76, 77, 78, 79, 4, 80, 81, 1, 82, 83, 84, 85, 86, 87, 88, 89, 90, 91, 92, 93, 94, 95, 96, 97, 98, 99, 100] (by decide +kernel) (by decide +kernel)
set_option maxRecDepth 20000 in
theorem gX4_home_X4_orNone : GoodIn wsX4_home (wsV RX4 170 RX4 yX4_orNone wsX4_orNone) := goodIn_app (goodIn_of _ (by decide +kernel)) ggX4_home_X4_orNone
set_option maxRecDepth 20000 in
theorem ggX4_home_X4_finds : GoodIn wsX4_home wsX4_finds := goodIn_r _ [80, 81, 1, 82, 83, 84, 85, 86, 87, 88, 89, 90, 91, 92, 93, 94, 95, 96, 97, 98, 99, 100] (by decide +kernel) (by decide +kernel)
set_option maxRecDepth 20000 in
theorem gX4_home_X4_finds : GoodIn wsX4_home (wsV RX4 77 RX4 yX4_finds wsX4_finds) := goodIn_app (goodIn_of _ (by decide +kernel)) ggX4_home_X4_finds
theorem dX4_home_0 : decode cX4_home 0 = .ok (.iload_n 1, 1) := by decide +kernel
theorem dX4_home_1 : decode cX4_home 1 = .ok (.invokestatic 94, 3) := by decide +kernel
theorem dX4_home_4 : decode cX4_home 4 = .ok (.ifCond .eq 16, 3) := by decide +kernel
theorem dX4_home_7 : decode cX4_home 7 = .ok (.aload_n 0, 1) := by decide +kernel
theorem dX4_home_8 : decode cX4_home 8 = .ok (.aload_n 0, 1) := by decide +kernel
theorem dX4_home_9 : decode cX4_home 9 = .ok (.iconst (-1), 1) := by decide +kernel
theorem dX4_home_10 : decode cX4_home 10 = .ok (.iload_n 1, 1) := by decide +kernel
theorem dX4_home_11 : decode cX4_home 11 = .ok (.invokevirtual 167, 3) := by decide +kernel
theorem dX4_home_14 : decode cX4_home 14 = .ok (.invokevirtual 170, 3) := by decide +kernel
theorem dX4_home_17 : decode cX4_home 17 = .ok (.goto 9, 3) := by decide +kernel
theorem dX4_home_20 : decode cX4_home 20 = .ok (.aload_n 0, 1) := by decide +kernel
theorem dX4_home_21 : decode cX4_home 21 = .ok (.ldc 48, 2) := by decide +kernel
theorem dX4_home_23 : decode cX4_home 23 = .ok (.invokevirtual 77, 3) := by decide +kernel
theorem dX4_home_26 : decode cX4_home 26 = .ok (.ireturn, 1) := by decide +kernel
set_option maxRecDepth 20000 in
theorem ggX4_last_X4_isMessage : GoodIn wsX4_last wsX4_isMessage := goodIn_r _ [5, 6, 7, 8, 4, 9] (by decide +kernel) (by decide +kernel)
set_option maxRecDepth 20000 in
theorem gX4_last_X4_isMessage : GoodIn wsX4_last (va_wsS RX4 94 yX4_isMessage wsX4_isMessage) := goodIn_app (goodIn_of _ (by decide +kernel)) ggX4_last_X4_isMessage
set_option maxRecDepth 20000 in
theorem ggX4_last_X4_finds : GoodIn wsX4_last wsX4_finds := goodIn_r _ [13, 14, 1, 77, 78, 79, 80, 81, 82, 83, 84, 85, 86, 87, 88, 89, 90, 91, 92, 93, 94, 95] (by decide +kernel) (by decide +kernel)
set_option maxRecDepth 20000 in
theorem gX4_last_X4_finds : GoodIn wsX4_last (wsV RX4 77 RX4 yX4_finds wsX4_finds) := goodIn_app (goodIn_of _ (by decide +kernel)) ggX4_last_X4_finds
set_option maxRecDepth 20000 in
theorem ggX4_last_X4_knownIn : GoodIn wsX4_last wsX4_knownIn := goodIn_r _ [18, 19, 20, 21, 4, 22, 23, 24, 25, 26, 27, 28, 29, 30, 31, 32, 33, 34, 35, 36, 37, 38, 39, 40, 41, 42, 43, 44, 45, 46, 47, 48, 49, 50, 51, 52, 53, 54, 55, 56, 57, 58, 59, 60, 61, 62, 63, 64, 65, 66, 67, 68, 69, 70, 71, 72, 73, 74, 75, 76, 77, 78, 79, 80, 81, 82, 83, 84, 85, 86, 87, 88, 89, 90, 91, 92, 93, 94, 95] (by decide +kernel) (by decide +kernel)
set_option maxRecDepth 20000 in
theorem gX4_last_X4_knownIn : GoodIn wsX4_last (wsV RX4 167 RX4 yX4_knownIn wsX4_knownIn) := goodIn_app (goodIn_of _ (by decide +kernel)) ggX4_last_X4_knownIn
theorem dX4_last_0 : decode cX4_last 0 = .ok (.iload_n 1, 1) := by decide +kernel
theorem dX4_last_1 : decode cX4_last 1 = .ok (.invokestatic 94, 3) := by decide +kernel
theorem dX4_last_4 : decode cX4_last 4 = .ok (.ifCond .ne 10, 3) := by decide +kernel
theorem dX4_last_7 : decode cX4_last 7 = .ok (.aload_n 0, 1) := by decide +kernel
theorem dX4_last_8 : decode cX4_last 8 = .ok (.ldc 48, 2) := by decide +kernel
theorem dX4_last_10 : decode cX4_last 10 = .ok (.invokevirtual 77, 3) := by decide +kernel
theorem dX4_last_13 : decode cX4_last 13 = .ok (.ireturn, 1) := by decide +kernel
theorem dX4_last_14 : decode cX4_last 14 = .ok (.iconst 0, 1) := by decide +kernel
theorem dX4_last_15 : decode cX4_last 15 = .ok (.istore_n 2, 1) := by decide +kernel
theorem dX4_last_16 : decode cX4_last 16 = .ok (.iconst (-1), 1) := by decide +kernel
theorem dX4_last_17 : decode cX4_last 17 = .ok (.istore_n 3, 1) := by decide +kernel
theorem dX4_last_18 : decode cX4_last 18 = .ok (.iconst 0, 1) := by decide +kernel
theorem dX4_last_19 : decode cX4_last 19 = .ok (.istore 4, 2) := by decide +kernel
theorem dX4_last_21 : decode cX4_last 21 = .ok (.iload 4, 2) := by decide +kernel
theorem dX4_last_23 : decode cX4_last 23 = .ok (.bipush 12, 2) := by decide +kernel
theorem dX4_last_25 : decode cX4_last 25 = .ok (.if_icmp .ge 44, 3) := by decide +kernel
theorem dX4_last_28 : decode cX4_last 28 = .ok (.aload_n 0, 1) := by decide +kernel
theorem dX4_last_29 : decode cX4_last 29 = .ok (.iload 4, 2) := by decide +kernel
theorem dX4_last_31 : decode cX4_last 31 = .ok (.iload_n 1, 1) := by decide +kernel
theorem dX4_last_32 : decode cX4_last 32 = .ok (.invokevirtual 167, 3) := by decide +kernel
theorem dX4_last_35 : decode cX4_last 35 = .ok (.istore 5, 2) := by decide +kernel
theorem dX4_last_37 : decode cX4_last 37 = .ok (.iload 5, 2) := by decide +kernel
theorem dX4_last_39 : decode cX4_last 39 = .ok (.iload_n 3, 1) := by decide +kernel
theorem dX4_last_40 : decode cX4_last 40 = .ok (.if_icmp .le 8, 3) := by decide +kernel
theorem dX4_last_43 : decode cX4_last 43 = .ok (.iload 4, 2) := by decide +kernel
theorem dX4_last_45 : decode cX4_last 45 = .ok (.goto 4, 3) := by decide +kernel
theorem dX4_last_48 : decode cX4_last 48 = .ok (.iload_n 2, 1) := by decide +kernel
theorem dX4_last_49 : decode cX4_last 49 = .ok (.istore_n 2, 1) := by decide +kernel
theorem dX4_last_50 : decode cX4_last 50 = .ok (.iload 5, 2) := by decide +kernel
theorem dX4_last_52 : decode cX4_last 52 = .ok (.iload_n 3, 1) := by decide +kernel
theorem dX4_last_53 : decode cX4_last 53 = .ok (.if_icmp .le 8, 3) := by decide +kernel
theorem dX4_last_56 : decode cX4_last 56 = .ok (.iload 5, 2) := by decide +kernel
theorem dX4_last_58 : decode cX4_last 58 = .ok (.goto 4, 3) := by decide +kernel
theorem dX4_last_61 : decode cX4_last 61 = .ok (.iload_n 3, 1) := by decide +kernel
theorem dX4_last_62 : decode cX4_last 62 = .ok (.istore_n 3, 1) := by decide +kernel
theorem dX4_last_63 : decode cX4_last 63 = .ok (.iinc 4 1, 3) := by decide +kernel
theorem dX4_last_66 : decode cX4_last 66 = .ok (.goto (-45), 3) := by decide +kernel
theorem dX4_last_69 : decode cX4_last 69 = .ok (.iload_n 2, 1) := by decide +kernel
theorem dX4_last_70 : decode cX4_last 70 = .ok (.ireturn, 1) := by decide +kernel
theorem dX4_begins_0 : decode cX4_begins 0 = .ok (.aload_n 0, 1) := by decide +kernel
theorem dX4_begins_1 : decode cX4_begins 1 = .ok (.iconst (-1), 1) := by decide +kernel
theorem dX4_begins_2 : decode cX4_begins 2 = .ok (.putfield 173, 3) := by decide +kernel
theorem dX4_begins_5 : decode cX4_begins 5 = .ok (.aload_n 0, 1) := by decide +kernel
theorem dX4_begins_6 : decode cX4_begins 6 = .ok (.iload_n 1, 1) := by decide +kernel
theorem dX4_begins_7 : decode cX4_begins 7 = .ok (.putfield 177, 3) := by decide +kernel
theorem dX4_begins_10 : decode cX4_begins 10 = .ok (.return_, 1) := by decide +kernel
theorem dX4_tries_0 : decode cX4_tries 0 = .ok (.aload_n 0, 1) := by decide +kernel
theorem dX4_tries_1 : decode cX4_tries 1 = .ok (.iload_n 2, 1) := by decide +kernel
theorem dX4_tries_2 : decode cX4_tries 2 = .ok (.aload_n 0, 1) := by decide +kernel
theorem dX4_tries_3 : decode cX4_tries 3 = .ok (.getfield 177, 3) := by decide +kernel
theorem dX4_tries_6 : decode cX4_tries 6 = .ok (.if_icmp .ge 7, 3) := by decide +kernel
theorem dX4_tries_9 : decode cX4_tries 9 = .ok (.iload_n 1, 1) := by decide +kernel
theorem dX4_tries_10 : decode cX4_tries 10 = .ok (.goto 7, 3) := by decide +kernel
theorem dX4_tries_13 : decode cX4_tries 13 = .ok (.aload_n 0, 1) := by decide +kernel
theorem dX4_tries_14 : decode cX4_tries 14 = .ok (.getfield 173, 3) := by decide +kernel
theorem dX4_tries_17 : decode cX4_tries 17 = .ok (.putfield 173, 3) := by decide +kernel
theorem dX4_tries_20 : decode cX4_tries 20 = .ok (.aload_n 0, 1) := by decide +kernel
theorem dX4_tries_21 : decode cX4_tries 21 = .ok (.iload_n 2, 1) := by decide +kernel
theorem dX4_tries_22 : decode cX4_tries 22 = .ok (.aload_n 0, 1) := by decide +kernel
theorem dX4_tries_23 : decode cX4_tries 23 = .ok (.getfield 177, 3) := by decide +kernel
theorem dX4_tries_26 : decode cX4_tries 26 = .ok (.if_icmp .ge 7, 3) := by decide +kernel
theorem dX4_tries_29 : decode cX4_tries 29 = .ok (.iload_n 2, 1) := by decide +kernel
theorem dX4_tries_30 : decode cX4_tries 30 = .ok (.goto 7, 3) := by decide +kernel
theorem dX4_tries_33 : decode cX4_tries 33 = .ok (.aload_n 0, 1) := by decide +kernel
theorem dX4_tries_34 : decode cX4_tries 34 = .ok (.getfield 177, 3) := by decide +kernel
theorem dX4_tries_37 : decode cX4_tries 37 = .ok (.putfield 177, 3) := by decide +kernel
theorem dX4_tries_40 : decode cX4_tries 40 = .ok (.return_, 1) := by decide +kernel
set_option maxRecDepth 20000 in
theorem ggX4_bestOrNone_X4_finds : GoodIn wsX4_bestOrNone wsX4_finds := goodIn_r _ [7, 8, 9, 10, 11, 12, 13, 14, 15, 16, 17, 18, 19, 20, 21, 22, 23, 24, 25, 26, 27, 28] (by decide +kernel) (by decide +kernel)
set_option maxRecDepth 20000 in
theorem gX4_bestOrNone_X4_finds : GoodIn wsX4_bestOrNone (wsV RX4 77 RX4 yX4_finds wsX4_finds) := goodIn_app (goodIn_of _ (by decide +kernel)) ggX4_bestOrNone_X4_finds
theorem dX4_bestOrNone_0 : decode cX4_bestOrNone 0 = .ok (.aload_n 0, 1) := by decide +kernel
theorem dX4_bestOrNone_1 : decode cX4_bestOrNone 1 = .ok (.getfield 173, 3) := by decide +kernel
theorem dX4_bestOrNone_4 : decode cX4_bestOrNone 4 = .ok (.ifCond .ge 12, 3) := by decide +kernel
theorem dX4_bestOrNone_7 : decode cX4_bestOrNone 7 = .ok (.aload_n 0, 1) := by decide +kernel
theorem dX4_bestOrNone_8 : decode cX4_bestOrNone 8 = .ok (.ldc 97, 2) := by decide +kernel
theorem dX4_bestOrNone_10 : decode cX4_bestOrNone 10 = .ok (.invokevirtual 77, 3) := by decide +kernel
theorem dX4_bestOrNone_13 : decode cX4_bestOrNone 13 = .ok (.goto 7, 3) := by decide +kernel
theorem dX4_bestOrNone_16 : decode cX4_bestOrNone 16 = .ok (.aload_n 0, 1) := by decide +kernel
theorem dX4_bestOrNone_17 : decode cX4_bestOrNone 17 = .ok (.getfield 173, 3) := by decide +kernel
theorem dX4_bestOrNone_20 : decode cX4_bestOrNone 20 = .ok (.ireturn, 1) := by decide +kernel
set_option maxRecDepth 20000 in
theorem ggX4_introduce_X4_isMessage : GoodIn wsX4_introduce wsX4_isMessage := goodIn_r _ [6, 7, 8, 9, 5, 10] (by decide +kernel) (by decide +kernel)
set_option maxRecDepth 20000 in
theorem gX4_introduce_X4_isMessage : GoodIn wsX4_introduce (va_wsS RX4 94 yX4_isMessage wsX4_isMessage) := goodIn_app (goodIn_of _ (by decide +kernel)) ggX4_introduce_X4_isMessage
set_option maxRecDepth 20000 in
theorem ggX4_introduce_X4_finds : GoodIn wsX4_introduce wsX4_finds := goodIn_r _ [14, 15, 1, 92, 93, 94, 95, 96, 97, 98, 99, 100, 101, 102, 103, 104, 105, 106, 107, 108, 109, 110] (by decide +kernel) (by decide +kernel)
set_option maxRecDepth 20000 in
theorem gX4_introduce_X4_finds : GoodIn wsX4_introduce (wsV RX4 77 RX4 yX4_finds wsX4_finds) := goodIn_app (goodIn_of _ (by decide +kernel)) ggX4_introduce_X4_finds
set_option maxRecDepth 20000 in
theorem ggX4_introduce_X4_knownIn : GoodIn wsX4_introduce wsX4_knownIn := goodIn_r _ [19, 20, 21, 22, 5, 23, 24, 2, 25, 26, 27, 28, 29, 30, 31, 32, 33, 34, 35, 36, 37, 38, 39, 40, 41, 42, 43, 44, 45, 46, 47, 48, 49, 50, 51, 52, 53, 54, 55, 56, 57, 58, 59, 60, 61, 62, 63, 64, 65, 66, 67, 68, 69, 70, 71, 72, 73, 74, 75, 76, 92, 93, 94, 95, 96, 97, 98, 99, 100, 101, 102, 103, 104, 105, 106, 107, 108, 109, 110] (by decide +kernel) (by decide +kernel)
set_option maxRecDepth 20000 in
theorem gX4_introduce_X4_knownIn : GoodIn wsX4_introduce (wsV RX4 167 RX4 yX4_knownIn wsX4_knownIn) := goodIn_app (goodIn_of _ (by decide +kernel)) ggX4_introduce_X4_knownIn
set_option maxRecDepth 20000 in
theorem ggX4_introduce_X4_begins : GoodIn wsX4_introduce wsX4_begins := goodIn_r _ [80, 81, 82, 92, 93, 94, 95, 96, 97, 98, 99, 100, 101, 102, 103, 104, 105, 106, 107, 108, 109, 110] (by decide +kernel) (by decide +kernel)
set_option maxRecDepth 20000 in
theorem gX4_introduce_X4_begins : GoodIn wsX4_introduce (wsV RX4 180 RX4 yX4_begins wsX4_begins) := goodIn_app (goodIn_of _ (by decide +kernel)) ggX4_introduce_X4_begins
set_option maxRecDepth 20000 in
theorem ggX4_introduce_X4_tries : GoodIn wsX4_introduce wsX4_tries := goodIn_r _ [86, 82, 81, 92, 93, 94, 95, 96, 97, 98, 99, 100, 101, 102, 103, 104, 105, 106, 107, 108, 109, 110] (by decide +kernel) (by decide +kernel)
set_option maxRecDepth 20000 in
theorem gX4_introduce_X4_tries : GoodIn wsX4_introduce (wsV RX4 183 RX4 yX4_tries wsX4_tries) := goodIn_app (goodIn_of _ (by decide +kernel)) ggX4_introduce_X4_tries
set_option maxRecDepth 20000 in
theorem ggX4_introduce_X4_bestOrNone : GoodIn wsX4_introduce wsX4_bestOrNone := goodIn_r _ [90, 81, 91, 11, 12, 13, 5, 14, 15, 1, 92, 93, 94, 95, 96, 97, 98, 99, 100, 101, 102, 103, 104, 105, 106, 107, 108, 109, 110] (by decide +kernel) (by decide +kernel)
set_option maxRecDepth 20000 in
theorem gX4_introduce_X4_bestOrNone : GoodIn wsX4_introduce (wsV RX4 187 RX4 yX4_bestOrNone wsX4_bestOrNone) := goodIn_app (goodIn_of _ (by decide +kernel)) ggX4_introduce_X4_bestOrNone
theorem dX4_introduce_0 : decode cX4_introduce 0 = .ok (.iload_n 1, 1) := by decide +kernel
theorem dX4_introduce_1 : decode cX4_introduce 1 = .ok (.invokestatic 94, 3) := by decide +kernel
theorem dX4_introduce_4 : decode cX4_introduce 4 = .ok (.ifCond .ne 10, 3) := by decide +kernel
theorem dX4_introduce_7 : decode cX4_introduce 7 = .ok (.aload_n 0, 1) := by decide +kernel
theorem dX4_introduce_8 : decode cX4_introduce 8 = .ok (.ldc 48, 2) := by decide +kernel
theorem dX4_introduce_10 : decode cX4_introduce 10 = .ok (.invokevirtual 77, 3) := by decide +kernel
theorem dX4_introduce_13 : decode cX4_introduce 13 = .ok (.ireturn, 1) := by decide +kernel
theorem dX4_introduce_14 : decode cX4_introduce 14 = .ok (.aload_n 0, 1) := by decide +kernel
theorem dX4_introduce_15 : decode cX4_introduce 15 = .ok (.aload_n 0, 1) := by decide +kernel
theorem dX4_introduce_16 : decode cX4_introduce 16 = .ok (.iconst (-1), 1) := by decide +kernel
theorem dX4_introduce_17 : decode cX4_introduce 17 = .ok (.iload_n 1, 1) := by decide +kernel
theorem dX4_introduce_18 : decode cX4_introduce 18 = .ok (.invokevirtual 167, 3) := by decide +kernel
theorem dX4_introduce_21 : decode cX4_introduce 21 = .ok (.invokevirtual 180, 3) := by decide +kernel
theorem dX4_introduce_24 : decode cX4_introduce 24 = .ok (.aload_n 0, 1) := by decide +kernel
theorem dX4_introduce_25 : decode cX4_introduce 25 = .ok (.getfield 7, 3) := by decide +kernel
theorem dX4_introduce_28 : decode cX4_introduce 28 = .ok (.iconst 1, 1) := by decide +kernel
theorem dX4_introduce_29 : decode cX4_introduce 29 = .ok (.iaload, 1) := by decide +kernel
theorem dX4_introduce_30 : decode cX4_introduce 30 = .ok (.istore_n 2, 1) := by decide +kernel
theorem dX4_introduce_31 : decode cX4_introduce 31 = .ok (.iconst 0, 1) := by decide +kernel
theorem dX4_introduce_32 : decode cX4_introduce 32 = .ok (.istore_n 3, 1) := by decide +kernel
theorem dX4_introduce_33 : decode cX4_introduce 33 = .ok (.iload_n 3, 1) := by decide +kernel
theorem dX4_introduce_34 : decode cX4_introduce 34 = .ok (.bipush 6, 2) := by decide +kernel
theorem dX4_introduce_36 : decode cX4_introduce 36 = .ok (.if_icmp .ge 39, 3) := by decide +kernel
theorem dX4_introduce_39 : decode cX4_introduce 39 = .ok (.iload_n 2, 1) := by decide +kernel
theorem dX4_introduce_40 : decode cX4_introduce 40 = .ok (.iload_n 3, 1) := by decide +kernel
theorem dX4_introduce_41 : decode cX4_introduce 41 = .ok (.ishr, 1) := by decide +kernel
theorem dX4_introduce_42 : decode cX4_introduce 42 = .ok (.iconst 1, 1) := by decide +kernel
theorem dX4_introduce_43 : decode cX4_introduce 43 = .ok (.iand, 1) := by decide +kernel
theorem dX4_introduce_44 : decode cX4_introduce 44 = .ok (.ifCond .ne 25, 3) := by decide +kernel
theorem dX4_introduce_47 : decode cX4_introduce 47 = .ok (.aload_n 0, 1) := by decide +kernel
theorem dX4_introduce_48 : decode cX4_introduce 48 = .ok (.getfield 7, 3) := by decide +kernel
theorem dX4_introduce_51 : decode cX4_introduce 51 = .ok (.iconst 1, 1) := by decide +kernel
theorem dX4_introduce_52 : decode cX4_introduce 52 = .ok (.iload_n 2, 1) := by decide +kernel
theorem dX4_introduce_53 : decode cX4_introduce 53 = .ok (.iconst 1, 1) := by decide +kernel
theorem dX4_introduce_54 : decode cX4_introduce 54 = .ok (.iload_n 3, 1) := by decide +kernel
theorem dX4_introduce_55 : decode cX4_introduce 55 = .ok (.ishl, 1) := by decide +kernel
theorem dX4_introduce_56 : decode cX4_introduce 56 = .ok (.ior, 1) := by decide +kernel
theorem dX4_introduce_57 : decode cX4_introduce 57 = .ok (.iastore, 1) := by decide +kernel
theorem dX4_introduce_58 : decode cX4_introduce 58 = .ok (.aload_n 0, 1) := by decide +kernel
theorem dX4_introduce_59 : decode cX4_introduce 59 = .ok (.iload_n 3, 1) := by decide +kernel
theorem dX4_introduce_60 : decode cX4_introduce 60 = .ok (.aload_n 0, 1) := by decide +kernel
theorem dX4_introduce_61 : decode cX4_introduce 61 = .ok (.iconst (-1), 1) := by decide +kernel
theorem dX4_introduce_62 : decode cX4_introduce 62 = .ok (.iload_n 1, 1) := by decide +kernel
theorem dX4_introduce_63 : decode cX4_introduce 63 = .ok (.invokevirtual 167, 3) := by decide +kernel
theorem dX4_introduce_66 : decode cX4_introduce 66 = .ok (.invokevirtual 183, 3) := by decide +kernel
theorem dX4_introduce_69 : decode cX4_introduce 69 = .ok (.iinc 3 1, 3) := by decide +kernel
theorem dX4_introduce_72 : decode cX4_introduce 72 = .ok (.goto (-39), 3) := by decide +kernel
theorem dX4_introduce_75 : decode cX4_introduce 75 = .ok (.aload_n 0, 1) := by decide +kernel
theorem dX4_introduce_76 : decode cX4_introduce 76 = .ok (.getfield 7, 3) := by decide +kernel
theorem dX4_introduce_79 : decode cX4_introduce 79 = .ok (.iconst 1, 1) := by decide +kernel
theorem dX4_introduce_80 : decode cX4_introduce 80 = .ok (.iload_n 2, 1) := by decide +kernel
theorem dX4_introduce_81 : decode cX4_introduce 81 = .ok (.iastore, 1) := by decide +kernel
theorem dX4_introduce_82 : decode cX4_introduce 82 = .ok (.aload_n 0, 1) := by decide +kernel
theorem dX4_introduce_83 : decode cX4_introduce 83 = .ok (.invokevirtual 187, 3) := by decide +kernel
theorem dX4_introduce_86 : decode cX4_introduce 86 = .ok (.ireturn, 1) := by decide +kernel
set_option maxRecDepth 20000 in
theorem ggX4_lime_X4_isMessage : GoodIn wsX4_lime wsX4_isMessage := goodIn_r _ [6, 7, 8, 9, 5, 10] (by decide +kernel) (by decide +kernel)
set_option maxRecDepth 20000 in
theorem gX4_lime_X4_isMessage : GoodIn wsX4_lime (va_wsS RX4 94 yX4_isMessage wsX4_isMessage) := goodIn_app (goodIn_of _ (by decide +kernel)) ggX4_lime_X4_isMessage
set_option maxRecDepth 20000 in
theorem ggX4_lime_X4_finds : GoodIn wsX4_lime wsX4_finds := goodIn_r _ [14, 15, 1, 96, 97, 98, 99, 100, 101, 102, 103, 104, 105, 106, 107, 108, 109, 110, 111, 112, 113, 114] (by decide +kernel) (by decide +kernel)
set_option maxRecDepth 20000 in
theorem gX4_lime_X4_finds : GoodIn wsX4_lime (wsV RX4 77 RX4 yX4_finds wsX4_finds) := goodIn_app (goodIn_of _ (by decide +kernel)) ggX4_lime_X4_finds
set_option maxRecDepth 20000 in
theorem ggX4_lime_X4_knownIn : GoodIn wsX4_lime wsX4_knownIn := goodIn_r _ [19, 20, 21, 22, 5, 23, 24, 2, 25, 26, 27, 28, 29, 30, 31, 32, 33, 34, 35, 36, 37, 38, 39, 40, 41, 42, 43, 44, 45, 46, 47, 48, 49, 50, 51, 52, 53, 54, 55, 56, 57, 58, 59, 60, 61, 62, 63, 64, 65, 66, 67, 68, 69, 70, 71, 72, 73, 74, 75, 76, 96, 97, 98, 99, 100, 101, 102, 103, 104, 105, 106, 107, 108, 109, 110, 111, 112, 113, 114] (by decide +kernel) (by decide +kernel)
set_option maxRecDepth 20000 in
theorem gX4_lime_X4_knownIn : GoodIn wsX4_lime (wsV RX4 167 RX4 yX4_knownIn wsX4_knownIn) := goodIn_app (goodIn_of _ (by decide +kernel)) ggX4_lime_X4_knownIn
set_option maxRecDepth 20000 in
theorem ggX4_lime_X4_begins : GoodIn wsX4_lime wsX4_begins := goodIn_r _ [80, 81, 82, 96, 97, 98, 99, 100, 101, 102, 103, 104, 105, 106, 107, 108, 109, 110, 111, 112, 113, 114] (by decide +kernel) (by decide +kernel)
set_option maxRecDepth 20000 in
theorem gX4_lime_X4_begins : GoodIn wsX4_lime (wsV RX4 180 RX4 yX4_begins wsX4_begins) := goodIn_app (goodIn_of _ (by decide +kernel)) ggX4_lime_X4_begins
set_option maxRecDepth 20000 in
theorem ggX4_lime_X4_spotOf : GoodIn wsX4_lime wsX4_spotOf := goodIn_r _ [39] (by decide +kernel) (by decide +kernel)
set_option maxRecDepth 20000 in
theorem gX4_lime_X4_spotOf : GoodIn wsX4_lime (va_wsS RX4 59 yX4_spotOf wsX4_spotOf) := goodIn_app (goodIn_of _ (by decide +kernel)) ggX4_lime_X4_spotOf
set_option maxRecDepth 20000 in
theorem ggX4_lime_X4_becomes : GoodIn wsX4_lime wsX4_becomes := goodIn_r _ [86, 2, 96, 97, 98, 99, 100, 101, 102, 103, 104, 105, 106, 107, 108, 109, 110, 111, 112, 113, 114] (by decide +kernel) (by decide +kernel)
set_option maxRecDepth 20000 in
theorem gX4_lime_X4_becomes : GoodIn wsX4_lime (wsV RX4 101 RX4 yX4_becomes wsX4_becomes) := goodIn_app (goodIn_of _ (by decide +kernel)) ggX4_lime_X4_becomes
set_option maxRecDepth 20000 in
theorem ggX4_lime_X4_tries : GoodIn wsX4_lime wsX4_tries := goodIn_r _ [90, 82, 81, 96, 97, 98, 99, 100, 101, 102, 103, 104, 105, 106, 107, 108, 109, 110, 111, 112, 113, 114] (by decide +kernel) (by decide +kernel)
set_option maxRecDepth 20000 in
theorem gX4_lime_X4_tries : GoodIn wsX4_lime (wsV RX4 183 RX4 yX4_tries wsX4_tries) := goodIn_app (goodIn_of _ (by decide +kernel)) ggX4_lime_X4_tries
set_option maxRecDepth 20000 in
theorem ggX4_lime_X4_bestOrNone : GoodIn wsX4_lime wsX4_bestOrNone := goodIn_r _ [94, 81, 95, 11, 12, 13, 5, 14, 15, 1, 96, 97, 98, 99, 100, 101, 102, 103, 104, 105, 106, 107, 108, 109, 110, 111, 112, 113, 114] (by decide +kernel) (by decide +kernel)
set_option maxRecDepth 20000 in
theorem gX4_lime_X4_bestOrNone : GoodIn wsX4_lime (wsV RX4 187 RX4 yX4_bestOrNone wsX4_bestOrNone) := goodIn_app (goodIn_of _ (by decide +kernel)) ggX4_lime_X4_bestOrNone
theorem dX4_lime_0 : decode cX4_lime 0 = .ok (.iload_n 1, 1) := by decide +kernel
theorem dX4_lime_1 : decode cX4_lime 1 = .ok (.invokestatic 94, 3) := by decide +kernel
theorem dX4_lime_4 : decode cX4_lime 4 = .ok (.ifCond .ne 10, 3) := by decide +kernel
theorem dX4_lime_7 : decode cX4_lime 7 = .ok (.aload_n 0, 1) := by decide +kernel
theorem dX4_lime_8 : decode cX4_lime 8 = .ok (.ldc 48, 2) := by decide +kernel
theorem dX4_lime_10 : decode cX4_lime 10 = .ok (.invokevirtual 77, 3) := by decide +kernel
theorem dX4_lime_13 : decode cX4_lime 13 = .ok (.ireturn, 1) := by decide +kernel
theorem dX4_lime_14 : decode cX4_lime 14 = .ok (.aload_n 0, 1) := by decide +kernel
theorem dX4_lime_15 : decode cX4_lime 15 = .ok (.aload_n 0, 1) := by decide +kernel
theorem dX4_lime_16 : decode cX4_lime 16 = .ok (.iconst (-1), 1) := by decide +kernel
theorem dX4_lime_17 : decode cX4_lime 17 = .ok (.iload_n 1, 1) := by decide +kernel
theorem dX4_lime_18 : decode cX4_lime 18 = .ok (.invokevirtual 167, 3) := by decide +kernel
theorem dX4_lime_21 : decode cX4_lime 21 = .ok (.invokevirtual 180, 3) := by decide +kernel
theorem dX4_lime_24 : decode cX4_lime 24 = .ok (.iconst 0, 1) := by decide +kernel
theorem dX4_lime_25 : decode cX4_lime 25 = .ok (.istore_n 2, 1) := by decide +kernel
theorem dX4_lime_26 : decode cX4_lime 26 = .ok (.iload_n 2, 1) := by decide +kernel
theorem dX4_lime_27 : decode cX4_lime 27 = .ok (.bipush 12, 2) := by decide +kernel
theorem dX4_lime_29 : decode cX4_lime 29 = .ok (.if_icmp .ge 46, 3) := by decide +kernel
theorem dX4_lime_32 : decode cX4_lime 32 = .ok (.aload_n 0, 1) := by decide +kernel
theorem dX4_lime_33 : decode cX4_lime 33 = .ok (.iload_n 2, 1) := by decide +kernel
theorem dX4_lime_34 : decode cX4_lime 34 = .ok (.iconst 0, 1) := by decide +kernel
theorem dX4_lime_35 : decode cX4_lime 35 = .ok (.invokestatic 59, 3) := by decide +kernel
theorem dX4_lime_38 : decode cX4_lime 38 = .ok (.iconst 0, 1) := by decide +kernel
theorem dX4_lime_39 : decode cX4_lime 39 = .ok (.invokevirtual 101, 3) := by decide +kernel
theorem dX4_lime_42 : decode cX4_lime 42 = .ok (.istore_n 3, 1) := by decide +kernel
theorem dX4_lime_43 : decode cX4_lime 43 = .ok (.iload_n 3, 1) := by decide +kernel
theorem dX4_lime_44 : decode cX4_lime 44 = .ok (.ifCond .eq 14, 3) := by decide +kernel
theorem dX4_lime_47 : decode cX4_lime 47 = .ok (.aload_n 0, 1) := by decide +kernel
theorem dX4_lime_48 : decode cX4_lime 48 = .ok (.iload_n 2, 1) := by decide +kernel
theorem dX4_lime_49 : decode cX4_lime 49 = .ok (.aload_n 0, 1) := by decide +kernel
theorem dX4_lime_50 : decode cX4_lime 50 = .ok (.iconst (-1), 1) := by decide +kernel
theorem dX4_lime_51 : decode cX4_lime 51 = .ok (.iload_n 1, 1) := by decide +kernel
theorem dX4_lime_52 : decode cX4_lime 52 = .ok (.invokevirtual 167, 3) := by decide +kernel
theorem dX4_lime_55 : decode cX4_lime 55 = .ok (.invokevirtual 183, 3) := by decide +kernel
theorem dX4_lime_58 : decode cX4_lime 58 = .ok (.aload_n 0, 1) := by decide +kernel
theorem dX4_lime_59 : decode cX4_lime 59 = .ok (.getfield 7, 3) := by decide +kernel
theorem dX4_lime_62 : decode cX4_lime 62 = .ok (.iload_n 2, 1) := by decide +kernel
theorem dX4_lime_63 : decode cX4_lime 63 = .ok (.iconst 0, 1) := by decide +kernel
theorem dX4_lime_64 : decode cX4_lime 64 = .ok (.invokestatic 59, 3) := by decide +kernel
theorem dX4_lime_67 : decode cX4_lime 67 = .ok (.iload_n 3, 1) := by decide +kernel
theorem dX4_lime_68 : decode cX4_lime 68 = .ok (.iastore, 1) := by decide +kernel
theorem dX4_lime_69 : decode cX4_lime 69 = .ok (.iinc 2 1, 3) := by decide +kernel
theorem dX4_lime_72 : decode cX4_lime 72 = .ok (.goto (-46), 3) := by decide +kernel
theorem dX4_lime_75 : decode cX4_lime 75 = .ok (.aload_n 0, 1) := by decide +kernel
theorem dX4_lime_76 : decode cX4_lime 76 = .ok (.invokevirtual 187, 3) := by decide +kernel
theorem dX4_lime_79 : decode cX4_lime 79 = .ok (.ireturn, 1) := by decide +kernel
set_option maxRecDepth 20000 in
theorem ggX4_kind_X4_isTree : GoodIn wsX4_kind wsX4_isTree := goodIn_r _ [6, 7, 8, 9, 5, 10] (by decide +kernel) (by decide +kernel)
set_option maxRecDepth 20000 in
theorem gX4_kind_X4_isTree : GoodIn wsX4_kind (va_wsS RX4 73 yX4_isTree wsX4_isTree) := goodIn_app (goodIn_of _ (by decide +kernel)) ggX4_kind_X4_isTree
set_option maxRecDepth 20000 in
theorem ggX4_kind_X4_isMessage : GoodIn wsX4_kind wsX4_isMessage := goodIn_r _ [13, 14, 8, 9, 5, 10] (by decide +kernel) (by decide +kernel)
set_option maxRecDepth 20000 in
theorem gX4_kind_X4_isMessage : GoodIn wsX4_kind (va_wsS RX4 94 yX4_isMessage wsX4_isMessage) := goodIn_app (goodIn_of _ (by decide +kernel)) ggX4_kind_X4_isMessage
set_option maxRecDepth 20000 in
theorem ggX4_kind_X4_finds : GoodIn wsX4_kind wsX4_finds := goodIn_r _ [18, 19, 1, 96, 97, 98, 99, 100, 101, 102, 103, 104, 105, 106, 107, 108, 109, 110, 111, 112, 113, 114] (by decide +kernel) (by decide +kernel)
set_option maxRecDepth 20000 in
theorem gX4_kind_X4_finds : GoodIn wsX4_kind (wsV RX4 77 RX4 yX4_finds wsX4_finds) := goodIn_app (goodIn_of _ (by decide +kernel)) ggX4_kind_X4_finds
set_option maxRecDepth 20000 in
theorem ggX4_kind_X4_begins : GoodIn wsX4_kind wsX4_begins := goodIn_r _ [23, 24, 25, 96, 97, 98, 99, 100, 101, 102, 103, 104, 105, 106, 107, 108, 109, 110, 111, 112, 113, 114] (by decide +kernel) (by decide +kernel)
set_option maxRecDepth 20000 in
theorem gX4_kind_X4_begins : GoodIn wsX4_kind (wsV RX4 180 RX4 yX4_begins wsX4_begins) := goodIn_app (goodIn_of _ (by decide +kernel)) ggX4_kind_X4_begins
set_option maxRecDepth 20000 in
theorem ggX4_kind_X4_its : GoodIn wsX4_kind wsX4_its := goodIn_r _ [29, 2, 30, 31, 5, 32, 96, 97, 98, 99, 100, 101, 102, 103, 104, 105, 106, 107, 108, 109, 110, 111, 112, 113, 114] (by decide +kernel) (by decide +kernel)
set_option maxRecDepth 20000 in
theorem gX4_kind_X4_its : GoodIn wsX4_kind (wsV RX4 63 RX4 yX4_its wsX4_its) := goodIn_app (goodIn_of _ (by decide +kernel)) ggX4_kind_X4_its
set_option maxRecDepth 20000 in
theorem ggX4_kind_X4_spotOf : GoodIn wsX4_kind wsX4_spotOf := goodIn_r _ [32] (by decide +kernel) (by decide +kernel)
set_option maxRecDepth 20000 in
theorem gX4_kind_X4_spotOf : GoodIn wsX4_kind (va_wsS RX4 59 yX4_spotOf wsX4_spotOf) := goodIn_app (goodIn_of _ (by decide +kernel)) ggX4_kind_X4_spotOf
set_option maxRecDepth 20000 in
theorem ggX4_kind_X4_knownIn : GoodIn wsX4_kind wsX4_knownIn := goodIn_r _ [36, 37, 38, 39, 5, 40, 41, 2, 42, 43, 44, 45, 46, 47, 48, 49, 26, 27, 28, 29, 30, 31, 32, 50, 51, 52, 53, 54, 55, 56, 57, 58, 59, 60, 61, 62, 63, 64, 65, 66, 67, 68, 69, 70, 71, 72, 73, 74, 75, 76, 77, 78, 79, 80, 81, 82, 83, 84, 85, 86, 96, 97, 98, 99, 100, 101, 102, 103, 104, 105, 106, 107, 108, 109, 110, 111, 112, 113, 114] (by decide +kernel) (by decide +kernel)
set_option maxRecDepth 20000 in
theorem gX4_kind_X4_knownIn : GoodIn wsX4_kind (wsV RX4 167 RX4 yX4_knownIn wsX4_knownIn) := goodIn_app (goodIn_of _ (by decide +kernel)) ggX4_kind_X4_knownIn
set_option maxRecDepth 20000 in
theorem ggX4_kind_X4_tries : GoodIn wsX4_kind wsX4_tries := goodIn_r _ [90, 25, 24, 96, 97, 98, 99, 100, 101, 102, 103, 104, 105, 106, 107, 108, 109, 110, 111, 112, 113, 114] (by decide +kernel) (by decide +kernel)
set_option maxRecDepth 20000 in
theorem gX4_kind_X4_tries : GoodIn wsX4_kind (wsV RX4 183 RX4 yX4_tries wsX4_tries) := goodIn_app (goodIn_of _ (by decide +kernel)) ggX4_kind_X4_tries
set_option maxRecDepth 20000 in
theorem ggX4_kind_X4_bestOrNone : GoodIn wsX4_kind wsX4_bestOrNone := goodIn_r _ [94, 24, 95, 15, 16, 17, 5, 18, 19, 1, 96, 97, 98, 99, 100, 101, 102, 103, 104, 105, 106, 107, 108, 109, 110, 111, 112, 113, 114] (by decide +kernel) (by decide +kernel)
set_option maxRecDepth 20000 in
theorem gX4_kind_X4_bestOrNone : GoodIn wsX4_kind (wsV RX4 187 RX4 yX4_bestOrNone wsX4_bestOrNone) := goodIn_app (goodIn_of _ (by decide +kernel)) ggX4_kind_X4_bestOrNone
theorem dX4_kind_0 : decode cX4_kind 0 = .ok (.iload_n 1, 1) := by decide +kernel
theorem dX4_kind_1 : decode cX4_kind 1 = .ok (.invokestatic 73, 3) := by decide +kernel
theorem dX4_kind_4 : decode cX4_kind 4 = .ok (.ifCond .eq 10, 3) := by decide +kernel
theorem dX4_kind_7 : decode cX4_kind 7 = .ok (.iload_n 2, 1) := by decide +kernel
theorem dX4_kind_8 : decode cX4_kind 8 = .ok (.invokestatic 94, 3) := by decide +kernel
theorem dX4_kind_11 : decode cX4_kind 11 = .ok (.ifCond .ne 10, 3) := by decide +kernel
theorem dX4_kind_14 : decode cX4_kind 14 = .ok (.aload_n 0, 1) := by decide +kernel
theorem dX4_kind_15 : decode cX4_kind 15 = .ok (.ldc 48, 2) := by decide +kernel
theorem dX4_kind_17 : decode cX4_kind 17 = .ok (.invokevirtual 77, 3) := by decide +kernel
theorem dX4_kind_20 : decode cX4_kind 20 = .ok (.ireturn, 1) := by decide +kernel
theorem dX4_kind_21 : decode cX4_kind 21 = .ok (.aload_n 0, 1) := by decide +kernel
theorem dX4_kind_22 : decode cX4_kind 22 = .ok (.sipush 201, 3) := by decide +kernel
theorem dX4_kind_25 : decode cX4_kind 25 = .ok (.invokevirtual 180, 3) := by decide +kernel
theorem dX4_kind_28 : decode cX4_kind 28 = .ok (.aload_n 0, 1) := by decide +kernel
theorem dX4_kind_29 : decode cX4_kind 29 = .ok (.iload_n 1, 1) := by decide +kernel
theorem dX4_kind_30 : decode cX4_kind 30 = .ok (.iconst 0, 1) := by decide +kernel
theorem dX4_kind_31 : decode cX4_kind 31 = .ok (.invokevirtual 63, 3) := by decide +kernel
theorem dX4_kind_34 : decode cX4_kind 34 = .ok (.istore_n 3, 1) := by decide +kernel
theorem dX4_kind_35 : decode cX4_kind 35 = .ok (.iconst 0, 1) := by decide +kernel
theorem dX4_kind_36 : decode cX4_kind 36 = .ok (.istore 4, 2) := by decide +kernel
theorem dX4_kind_38 : decode cX4_kind 38 = .ok (.iload 4, 2) := by decide +kernel
theorem dX4_kind_40 : decode cX4_kind 40 = .ok (.iconst 5, 1) := by decide +kernel
theorem dX4_kind_41 : decode cX4_kind 41 = .ok (.if_icmp .gt 33, 3) := by decide +kernel
theorem dX4_kind_44 : decode cX4_kind 44 = .ok (.aload_n 0, 1) := by decide +kernel
theorem dX4_kind_45 : decode cX4_kind 45 = .ok (.getfield 7, 3) := by decide +kernel
theorem dX4_kind_48 : decode cX4_kind 48 = .ok (.iload_n 1, 1) := by decide +kernel
theorem dX4_kind_49 : decode cX4_kind 49 = .ok (.iconst 0, 1) := by decide +kernel
theorem dX4_kind_50 : decode cX4_kind 50 = .ok (.invokestatic 59, 3) := by decide +kernel
theorem dX4_kind_53 : decode cX4_kind 53 = .ok (.iload 4, 2) := by decide +kernel
theorem dX4_kind_55 : decode cX4_kind 55 = .ok (.iastore, 1) := by decide +kernel
theorem dX4_kind_56 : decode cX4_kind 56 = .ok (.aload_n 0, 1) := by decide +kernel
theorem dX4_kind_57 : decode cX4_kind 57 = .ok (.iload 4, 2) := by decide +kernel
theorem dX4_kind_59 : decode cX4_kind 59 = .ok (.aload_n 0, 1) := by decide +kernel
theorem dX4_kind_60 : decode cX4_kind 60 = .ok (.iconst (-1), 1) := by decide +kernel
theorem dX4_kind_61 : decode cX4_kind 61 = .ok (.iload_n 2, 1) := by decide +kernel
theorem dX4_kind_62 : decode cX4_kind 62 = .ok (.invokevirtual 167, 3) := by decide +kernel
theorem dX4_kind_65 : decode cX4_kind 65 = .ok (.invokevirtual 183, 3) := by decide +kernel
theorem dX4_kind_68 : decode cX4_kind 68 = .ok (.iinc 4 1, 3) := by decide +kernel
theorem dX4_kind_71 : decode cX4_kind 71 = .ok (.goto (-33), 3) := by decide +kernel
theorem dX4_kind_74 : decode cX4_kind 74 = .ok (.aload_n 0, 1) := by decide +kernel
theorem dX4_kind_75 : decode cX4_kind 75 = .ok (.getfield 7, 3) := by decide +kernel
theorem dX4_kind_78 : decode cX4_kind 78 = .ok (.iload_n 1, 1) := by decide +kernel
theorem dX4_kind_79 : decode cX4_kind 79 = .ok (.iconst 0, 1) := by decide +kernel
theorem dX4_kind_80 : decode cX4_kind 80 = .ok (.invokestatic 59, 3) := by decide +kernel
theorem dX4_kind_83 : decode cX4_kind 83 = .ok (.iload_n 3, 1) := by decide +kernel
theorem dX4_kind_84 : decode cX4_kind 84 = .ok (.iastore, 1) := by decide +kernel
theorem dX4_kind_85 : decode cX4_kind 85 = .ok (.aload_n 0, 1) := by decide +kernel
theorem dX4_kind_86 : decode cX4_kind 86 = .ok (.invokevirtual 187, 3) := by decide +kernel
theorem dX4_kind_89 : decode cX4_kind 89 = .ok (.ireturn, 1) := by decide +kernel
set_option maxRecDepth 20000 in
theorem ggX4_delay_X4_in : GoodIn wsX4_delay wsX4_in := goodIn_r _ [6] (by decide +kernel) (by decide +kernel)
set_option maxRecDepth 20000 in
theorem gX4_delay_X4_in : GoodIn wsX4_delay (va_wsS RX4 51 yX4_in wsX4_in) := goodIn_app (goodIn_of _ (by decide +kernel)) ggX4_delay_X4_in
set_option maxRecDepth 20000 in
theorem ggX4_delay_X4_finds : GoodIn wsX4_delay wsX4_finds := goodIn_r _ [10, 11, 2, 93, 94, 95, 96, 97, 98, 99, 100, 101, 102, 103, 104, 105, 106, 107, 108, 109, 110, 111] (by decide +kernel) (by decide +kernel)
set_option maxRecDepth 20000 in
theorem gX4_delay_X4_finds : GoodIn wsX4_delay (wsV RX4 77 RX4 yX4_finds wsX4_finds) := goodIn_app (goodIn_of _ (by decide +kernel)) ggX4_delay_X4_finds
set_option maxRecDepth 20000 in
theorem ggX4_delay_X4_laysAside : GoodIn wsX4_delay wsX4_laysAside := goodIn_r _ [15, 16, 17, 93, 94, 95, 96, 97, 98, 99, 100, 101, 102, 103, 104, 105, 106, 107, 108, 109, 110, 111] (by decide +kernel) (by decide +kernel)
set_option maxRecDepth 20000 in
theorem gX4_delay_X4_laysAside : GoodIn wsX4_delay (wsV RX4 161 RX4 yX4_laysAside wsX4_laysAside) := goodIn_app (goodIn_of _ (by decide +kernel)) ggX4_delay_X4_laysAside
set_option maxRecDepth 20000 in
theorem ggX4_delay_X4_yearsGo : GoodIn wsX4_delay wsX4_yearsGo := goodIn_r _ [21, 22, 23, 24, 5, 25, 17, 26, 27, 28, 29, 30, 31, 32, 33, 34, 35, 36, 37, 38, 39, 40, 41, 42, 43, 44, 45, 46, 47, 48, 49, 50, 51, 52, 53, 54, 55, 56, 57, 58, 59, 60, 61, 62, 63, 64, 65, 66, 67, 68, 69, 93, 94, 95, 96, 97, 98, 99, 100, 101, 102, 103, 104, 105, 106, 107, 108, 109, 110, 111] (by decide +kernel) (by decide +kernel)
set_option maxRecDepth 20000 in
theorem gX4_delay_X4_yearsGo : GoodIn wsX4_delay (wsV RX4 140 RX4 yX4_yearsGo wsX4_yearsGo) := goodIn_app (goodIn_of _ (by decide +kernel)) ggX4_delay_X4_yearsGo
set_option maxRecDepth 20000 in
theorem ggX4_delay_X4_blows : GoodIn wsX4_delay wsX4_blows := goodIn_r _ [73, 74, 75, 76, 5, 77, 78, 79, 80, 81, 50, 51, 52, 53, 54, 55, 56, 57, 30, 31, 32, 33, 17, 27, 28, 29, 38, 39, 40, 41, 66, 67, 68, 69, 93, 94, 95, 96, 97, 98, 99, 100, 101, 102, 103, 104, 105, 106, 107, 108, 109, 110, 111] (by decide +kernel) (by decide +kernel)
set_option maxRecDepth 20000 in
theorem gX4_delay_X4_blows : GoodIn wsX4_delay (wsV RX4 147 RX4 yX4_blows wsX4_blows) := goodIn_app (goodIn_of _ (by decide +kernel)) ggX4_delay_X4_blows
set_option maxRecDepth 20000 in
theorem ggX4_delay_X4_knownTogether : GoodIn wsX4_delay wsX4_knownTogether := goodIn_r _ [85, 78, 79, 80, 5, 81, 50, 51, 52, 53, 54, 55, 56, 57, 30, 31, 32, 33, 17, 27, 28, 29, 86, 87, 88, 93, 94, 95, 96, 97, 98, 99, 100, 101, 102, 103, 104, 105, 106, 107, 108, 109, 110, 111] (by decide +kernel) (by decide +kernel)
set_option maxRecDepth 20000 in
theorem gX4_delay_X4_knownTogether : GoodIn wsX4_delay (wsV RX4 153 RX4 yX4_knownTogether wsX4_knownTogether) := goodIn_app (goodIn_of _ (by decide +kernel)) ggX4_delay_X4_knownTogether
set_option maxRecDepth 20000 in
theorem ggX4_delay_X4_takesBack : GoodIn wsX4_delay wsX4_takesBack := goodIn_r _ [92, 17, 16, 93, 94, 95, 96, 97, 98, 99, 100, 101, 102, 103, 104, 105, 106, 107, 108, 109, 110, 111] (by decide +kernel) (by decide +kernel)
set_option maxRecDepth 20000 in
theorem gX4_delay_X4_takesBack : GoodIn wsX4_delay (wsV RX4 164 RX4 yX4_takesBack wsX4_takesBack) := goodIn_app (goodIn_of _ (by decide +kernel)) ggX4_delay_X4_takesBack
theorem dX4_delay_0 : decode cX4_delay 0 = .ok (.iload_n 1, 1) := by decide +kernel
theorem dX4_delay_1 : decode cX4_delay 1 = .ok (.i2l, 1) := by decide +kernel
theorem dX4_delay_2 : decode cX4_delay 2 = .ok (.lconst 0, 1) := by decide +kernel
theorem dX4_delay_3 : decode cX4_delay 3 = .ok (.ldc2_w 190, 3) := by decide +kernel
theorem dX4_delay_6 : decode cX4_delay 6 = .ok (.invokestatic 51, 3) := by decide +kernel
theorem dX4_delay_9 : decode cX4_delay 9 = .ok (.ifCond .ne 10, 3) := by decide +kernel
theorem dX4_delay_12 : decode cX4_delay 12 = .ok (.aload_n 0, 1) := by decide +kernel
theorem dX4_delay_13 : decode cX4_delay 13 = .ok (.ldc 48, 2) := by decide +kernel
theorem dX4_delay_15 : decode cX4_delay 15 = .ok (.invokevirtual 77, 3) := by decide +kernel
theorem dX4_delay_18 : decode cX4_delay 18 = .ok (.ireturn, 1) := by decide +kernel
theorem dX4_delay_19 : decode cX4_delay 19 = .ok (.iconst 0, 1) := by decide +kernel
theorem dX4_delay_20 : decode cX4_delay 20 = .ok (.istore_n 2, 1) := by decide +kernel
theorem dX4_delay_21 : decode cX4_delay 21 = .ok (.iconst (-1), 1) := by decide +kernel
theorem dX4_delay_22 : decode cX4_delay 22 = .ok (.istore_n 3, 1) := by decide +kernel
theorem dX4_delay_23 : decode cX4_delay 23 = .ok (.aload_n 0, 1) := by decide +kernel
theorem dX4_delay_24 : decode cX4_delay 24 = .ok (.invokevirtual 161, 3) := by decide +kernel
theorem dX4_delay_27 : decode cX4_delay 27 = .ok (.iconst 0, 1) := by decide +kernel
theorem dX4_delay_28 : decode cX4_delay 28 = .ok (.istore 4, 2) := by decide +kernel
theorem dX4_delay_30 : decode cX4_delay 30 = .ok (.iload 4, 2) := by decide +kernel
theorem dX4_delay_32 : decode cX4_delay 32 = .ok (.iload_n 1, 1) := by decide +kernel
theorem dX4_delay_33 : decode cX4_delay 33 = .ok (.if_icmp .gt 65, 3) := by decide +kernel
theorem dX4_delay_36 : decode cX4_delay 36 = .ok (.aload_n 0, 1) := by decide +kernel
theorem dX4_delay_37 : decode cX4_delay 37 = .ok (.iload 4, 2) := by decide +kernel
theorem dX4_delay_39 : decode cX4_delay 39 = .ok (.invokevirtual 140, 3) := by decide +kernel
theorem dX4_delay_42 : decode cX4_delay 42 = .ok (.aload_n 0, 1) := by decide +kernel
theorem dX4_delay_43 : decode cX4_delay 43 = .ok (.invokevirtual 147, 3) := by decide +kernel
theorem dX4_delay_46 : decode cX4_delay 46 = .ok (.istore 5, 2) := by decide +kernel
theorem dX4_delay_48 : decode cX4_delay 48 = .ok (.aload_n 0, 1) := by decide +kernel
theorem dX4_delay_49 : decode cX4_delay 49 = .ok (.iload_n 1, 1) := by decide +kernel
theorem dX4_delay_50 : decode cX4_delay 50 = .ok (.iload 4, 2) := by decide +kernel
theorem dX4_delay_52 : decode cX4_delay 52 = .ok (.isub, 1) := by decide +kernel
theorem dX4_delay_53 : decode cX4_delay 53 = .ok (.invokevirtual 140, 3) := by decide +kernel
theorem dX4_delay_56 : decode cX4_delay 56 = .ok (.aload_n 0, 1) := by decide +kernel
theorem dX4_delay_57 : decode cX4_delay 57 = .ok (.aload_n 0, 1) := by decide +kernel
theorem dX4_delay_58 : decode cX4_delay 58 = .ok (.invokevirtual 153, 3) := by decide +kernel
theorem dX4_delay_61 : decode cX4_delay 61 = .ok (.invokevirtual 164, 3) := by decide +kernel
theorem dX4_delay_64 : decode cX4_delay 64 = .ok (.istore 6, 2) := by decide +kernel
theorem dX4_delay_66 : decode cX4_delay 66 = .ok (.iload 6, 2) := by decide +kernel
theorem dX4_delay_68 : decode cX4_delay 68 = .ok (.iload_n 3, 1) := by decide +kernel
theorem dX4_delay_69 : decode cX4_delay 69 = .ok (.if_icmp .le 8, 3) := by decide +kernel
theorem dX4_delay_72 : decode cX4_delay 72 = .ok (.iload 4, 2) := by decide +kernel
theorem dX4_delay_74 : decode cX4_delay 74 = .ok (.goto 4, 3) := by decide +kernel
theorem dX4_delay_77 : decode cX4_delay 77 = .ok (.iload_n 2, 1) := by decide +kernel
theorem dX4_delay_78 : decode cX4_delay 78 = .ok (.istore_n 2, 1) := by decide +kernel
theorem dX4_delay_79 : decode cX4_delay 79 = .ok (.iload 6, 2) := by decide +kernel
theorem dX4_delay_81 : decode cX4_delay 81 = .ok (.iload_n 3, 1) := by decide +kernel
theorem dX4_delay_82 : decode cX4_delay 82 = .ok (.if_icmp .le 8, 3) := by decide +kernel
theorem dX4_delay_85 : decode cX4_delay 85 = .ok (.iload 6, 2) := by decide +kernel
theorem dX4_delay_87 : decode cX4_delay 87 = .ok (.goto 4, 3) := by decide +kernel
theorem dX4_delay_90 : decode cX4_delay 90 = .ok (.iload_n 3, 1) := by decide +kernel
theorem dX4_delay_91 : decode cX4_delay 91 = .ok (.istore_n 3, 1) := by decide +kernel
theorem dX4_delay_92 : decode cX4_delay 92 = .ok (.iinc 4 1, 3) := by decide +kernel
theorem dX4_delay_95 : decode cX4_delay 95 = .ok (.goto (-65), 3) := by decide +kernel
theorem dX4_delay_98 : decode cX4_delay 98 = .ok (.iload_n 2, 1) := by decide +kernel
theorem dX4_delay_99 : decode cX4_delay 99 = .ok (.ireturn, 1) := by decide +kernel
set_option maxRecDepth 20000 in
theorem ggX4_side_X4_isMessage : GoodIn wsX4_side wsX4_isMessage := goodIn_r _ [7, 8, 9, 10, 6, 11] (by decide +kernel) (by decide +kernel)
set_option maxRecDepth 20000 in
theorem gX4_side_X4_isMessage : GoodIn wsX4_side (va_wsS RX4 94 yX4_isMessage wsX4_isMessage) := goodIn_app (goodIn_of _ (by decide +kernel)) ggX4_side_X4_isMessage
set_option maxRecDepth 20000 in
theorem ggX4_side_X4_finds : GoodIn wsX4_side wsX4_finds := goodIn_r _ [15, 16, 1, 97, 98, 99, 100, 101, 102, 103, 104, 105, 106, 107, 108, 109, 110, 111, 112, 113, 114, 115] (by decide +kernel) (by decide +kernel)
set_option maxRecDepth 20000 in
theorem gX4_side_X4_finds : GoodIn wsX4_side (wsV RX4 77 RX4 yX4_finds wsX4_finds) := goodIn_app (goodIn_of _ (by decide +kernel)) ggX4_side_X4_finds
set_option maxRecDepth 20000 in
theorem ggX4_side_X4_knowing : GoodIn wsX4_side wsX4_knowing := goodIn_r _ [20, 21, 22, 23, 6, 24, 25, 26, 27, 28, 29, 30, 31, 32, 3, 33, 34, 35, 97, 98, 99, 100, 101, 102, 103, 104, 105, 106, 107, 108, 109, 110, 111, 112, 113, 114, 115] (by decide +kernel) (by decide +kernel)
set_option maxRecDepth 20000 in
theorem gX4_side_X4_knowing : GoodIn wsX4_side (wsV RX4 118 RX4 yX4_knowing wsX4_knowing) := goodIn_app (goodIn_of _ (by decide +kernel)) ggX4_side_X4_knowing
set_option maxRecDepth 20000 in
theorem ggX4_side_X4_begins : GoodIn wsX4_side wsX4_begins := goodIn_r _ [39, 40, 41, 97, 98, 99, 100, 101, 102, 103, 104, 105, 106, 107, 108, 109, 110, 111, 112, 113, 114, 115] (by decide +kernel) (by decide +kernel)
set_option maxRecDepth 20000 in
theorem gX4_side_X4_begins : GoodIn wsX4_side (wsV RX4 180 RX4 yX4_begins wsX4_begins) := goodIn_app (goodIn_of _ (by decide +kernel)) ggX4_side_X4_begins
set_option maxRecDepth 20000 in
theorem ggX4_side_X4_spotOf : GoodIn wsX4_side wsX4_spotOf := goodIn_r _ [35] (by decide +kernel) (by decide +kernel)
set_option maxRecDepth 20000 in
theorem gX4_side_X4_spotOf : GoodIn wsX4_side (va_wsS RX4 59 yX4_spotOf wsX4_spotOf) := goodIn_app (goodIn_of _ (by decide +kernel)) ggX4_side_X4_spotOf
set_option maxRecDepth 20000 in
theorem ggX4_side_X4_knownIn : GoodIn wsX4_side wsX4_knownIn := goodIn_r _ [45, 46, 47, 48, 6, 49, 50, 3, 21, 22, 23, 24, 25, 26, 27, 28, 29, 30, 31, 32, 33, 34, 35, 51, 52, 53, 54, 55, 56, 57, 58, 59, 60, 61, 62, 63, 64, 65, 66, 67, 68, 69, 70, 71, 72, 73, 74, 75, 76, 77, 78, 79, 80, 81, 82, 83, 84, 85, 86, 87, 97, 98, 99, 100, 101, 102, 103, 104, 105, 106, 107, 108, 109, 110, 111, 112, 113, 114, 115] (by decide +kernel) (by decide +kernel)
set_option maxRecDepth 20000 in
theorem gX4_side_X4_knownIn : GoodIn wsX4_side (wsV RX4 167 RX4 yX4_knownIn wsX4_knownIn) := goodIn_app (goodIn_of _ (by decide +kernel)) ggX4_side_X4_knownIn
set_option maxRecDepth 20000 in
theorem ggX4_side_X4_tries : GoodIn wsX4_side wsX4_tries := goodIn_r _ [91, 41, 40, 97, 98, 99, 100, 101, 102, 103, 104, 105, 106, 107, 108, 109, 110, 111, 112, 113, 114, 115] (by decide +kernel) (by decide +kernel)
set_option maxRecDepth 20000 in
theorem gX4_side_X4_tries : GoodIn wsX4_side (wsV RX4 183 RX4 yX4_tries wsX4_tries) := goodIn_app (goodIn_of _ (by decide +kernel)) ggX4_side_X4_tries
set_option maxRecDepth 20000 in
theorem ggX4_side_X4_bestOrNone : GoodIn wsX4_side wsX4_bestOrNone := goodIn_r _ [95, 40, 96, 12, 13, 14, 6, 15, 16, 1, 97, 98, 99, 100, 101, 102, 103, 104, 105, 106, 107, 108, 109, 110, 111, 112, 113, 114, 115] (by decide +kernel) (by decide +kernel)
set_option maxRecDepth 20000 in
theorem gX4_side_X4_bestOrNone : GoodIn wsX4_side (wsV RX4 187 RX4 yX4_bestOrNone wsX4_bestOrNone) := goodIn_app (goodIn_of _ (by decide +kernel)) ggX4_side_X4_bestOrNone
theorem dX4_side_0 : decode cX4_side 0 = .ok (.iload_n 1, 1) := by decide +kernel
theorem dX4_side_1 : decode cX4_side 1 = .ok (.invokestatic 94, 3) := by decide +kernel
theorem dX4_side_4 : decode cX4_side 4 = .ok (.ifCond .ne 10, 3) := by decide +kernel
theorem dX4_side_7 : decode cX4_side 7 = .ok (.aload_n 0, 1) := by decide +kernel
theorem dX4_side_8 : decode cX4_side 8 = .ok (.ldc 48, 2) := by decide +kernel
theorem dX4_side_10 : decode cX4_side 10 = .ok (.invokevirtual 77, 3) := by decide +kernel
theorem dX4_side_13 : decode cX4_side 13 = .ok (.ireturn, 1) := by decide +kernel
theorem dX4_side_14 : decode cX4_side 14 = .ok (.aload_n 0, 1) := by decide +kernel
theorem dX4_side_15 : decode cX4_side 15 = .ok (.iload_n 1, 1) := by decide +kernel
theorem dX4_side_16 : decode cX4_side 16 = .ok (.invokevirtual 118, 3) := by decide +kernel
theorem dX4_side_19 : decode cX4_side 19 = .ok (.ifCond .le 10, 3) := by decide +kernel
theorem dX4_side_22 : decode cX4_side 22 = .ok (.aload_n 0, 1) := by decide +kernel
theorem dX4_side_23 : decode cX4_side 23 = .ok (.ldc 117, 2) := by decide +kernel
theorem dX4_side_25 : decode cX4_side 25 = .ok (.invokevirtual 77, 3) := by decide +kernel
theorem dX4_side_28 : decode cX4_side 28 = .ok (.ireturn, 1) := by decide +kernel
theorem dX4_side_29 : decode cX4_side 29 = .ok (.aload_n 0, 1) := by decide +kernel
theorem dX4_side_30 : decode cX4_side 30 = .ok (.sipush 201, 3) := by decide +kernel
theorem dX4_side_33 : decode cX4_side 33 = .ok (.invokevirtual 180, 3) := by decide +kernel
theorem dX4_side_36 : decode cX4_side 36 = .ok (.iconst 0, 1) := by decide +kernel
theorem dX4_side_37 : decode cX4_side 37 = .ok (.istore_n 2, 1) := by decide +kernel
theorem dX4_side_38 : decode cX4_side 38 = .ok (.iload_n 2, 1) := by decide +kernel
theorem dX4_side_39 : decode cX4_side 39 = .ok (.iconst 2, 1) := by decide +kernel
theorem dX4_side_40 : decode cX4_side 40 = .ok (.if_icmp .ge 51, 3) := by decide +kernel
theorem dX4_side_43 : decode cX4_side 43 = .ok (.aload_n 0, 1) := by decide +kernel
theorem dX4_side_44 : decode cX4_side 44 = .ok (.getfield 7, 3) := by decide +kernel
theorem dX4_side_47 : decode cX4_side 47 = .ok (.iload_n 2, 1) := by decide +kernel
theorem dX4_side_48 : decode cX4_side 48 = .ok (.iconst 2, 1) := by decide +kernel
theorem dX4_side_49 : decode cX4_side 49 = .ok (.iload_n 1, 1) := by decide +kernel
theorem dX4_side_50 : decode cX4_side 50 = .ok (.iadd, 1) := by decide +kernel
theorem dX4_side_51 : decode cX4_side 51 = .ok (.invokestatic 59, 3) := by decide +kernel
theorem dX4_side_54 : decode cX4_side 54 = .ok (.aload_n 0, 1) := by decide +kernel
theorem dX4_side_55 : decode cX4_side 55 = .ok (.getfield 7, 3) := by decide +kernel
theorem dX4_side_58 : decode cX4_side 58 = .ok (.iconst 0, 1) := by decide +kernel
theorem dX4_side_59 : decode cX4_side 59 = .ok (.iaload, 1) := by decide +kernel
theorem dX4_side_60 : decode cX4_side 60 = .ok (.iastore, 1) := by decide +kernel
theorem dX4_side_61 : decode cX4_side 61 = .ok (.aload_n 0, 1) := by decide +kernel
theorem dX4_side_62 : decode cX4_side 62 = .ok (.iload_n 2, 1) := by decide +kernel
theorem dX4_side_63 : decode cX4_side 63 = .ok (.aload_n 0, 1) := by decide +kernel
theorem dX4_side_64 : decode cX4_side 64 = .ok (.iconst (-1), 1) := by decide +kernel
theorem dX4_side_65 : decode cX4_side 65 = .ok (.iload_n 1, 1) := by decide +kernel
theorem dX4_side_66 : decode cX4_side 66 = .ok (.invokevirtual 167, 3) := by decide +kernel
theorem dX4_side_69 : decode cX4_side 69 = .ok (.invokevirtual 183, 3) := by decide +kernel
theorem dX4_side_72 : decode cX4_side 72 = .ok (.aload_n 0, 1) := by decide +kernel
theorem dX4_side_73 : decode cX4_side 73 = .ok (.getfield 7, 3) := by decide +kernel
theorem dX4_side_76 : decode cX4_side 76 = .ok (.iload_n 2, 1) := by decide +kernel
theorem dX4_side_77 : decode cX4_side 77 = .ok (.iconst 2, 1) := by decide +kernel
theorem dX4_side_78 : decode cX4_side 78 = .ok (.iload_n 1, 1) := by decide +kernel
theorem dX4_side_79 : decode cX4_side 79 = .ok (.iadd, 1) := by decide +kernel
theorem dX4_side_80 : decode cX4_side 80 = .ok (.invokestatic 59, 3) := by decide +kernel
theorem dX4_side_83 : decode cX4_side 83 = .ok (.iconst (-1), 1) := by decide +kernel
theorem dX4_side_84 : decode cX4_side 84 = .ok (.iastore, 1) := by decide +kernel
theorem dX4_side_85 : decode cX4_side 85 = .ok (.iinc 2 1, 3) := by decide +kernel
theorem dX4_side_88 : decode cX4_side 88 = .ok (.goto (-50), 3) := by decide +kernel
theorem dX4_side_91 : decode cX4_side 91 = .ok (.aload_n 0, 1) := by decide +kernel
theorem dX4_side_92 : decode cX4_side 92 = .ok (.invokevirtual 187, 3) := by decide +kernel
theorem dX4_side_95 : decode cX4_side 95 = .ok (.ireturn, 1) := by decide +kernel
set_option maxRecDepth 20000 in
theorem ggX4_needed_X4_isMessage : GoodIn wsX4_needed wsX4_isMessage := goodIn_r _ [6, 7, 8, 9, 5, 10] (by decide +kernel) (by decide +kernel)
set_option maxRecDepth 20000 in
theorem gX4_needed_X4_isMessage : GoodIn wsX4_needed (va_wsS RX4 94 yX4_isMessage wsX4_isMessage) := goodIn_app (goodIn_of _ (by decide +kernel)) ggX4_needed_X4_isMessage
set_option maxRecDepth 20000 in
theorem ggX4_needed_X4_finds : GoodIn wsX4_needed wsX4_finds := goodIn_r _ [14, 15, 1, 81, 82, 83, 84, 85, 86, 87, 88, 89, 90, 91, 92, 93, 94, 95, 96, 97, 98, 99] (by decide +kernel) (by decide +kernel)
set_option maxRecDepth 20000 in
theorem gX4_needed_X4_finds : GoodIn wsX4_needed (wsV RX4 77 RX4 yX4_finds wsX4_finds) := goodIn_app (goodIn_of _ (by decide +kernel)) ggX4_needed_X4_finds
set_option maxRecDepth 20000 in
theorem ggX4_needed_X4_spotOf : GoodIn wsX4_needed wsX4_spotOf := goodIn_r _ [18] (by decide +kernel) (by decide +kernel)
set_option maxRecDepth 20000 in
theorem gX4_needed_X4_spotOf : GoodIn wsX4_needed (va_wsS RX4 59 yX4_spotOf wsX4_spotOf) := goodIn_app (goodIn_of _ (by decide +kernel)) ggX4_needed_X4_spotOf
set_option maxRecDepth 20000 in
theorem ggX4_needed_X4_becomes : GoodIn wsX4_needed wsX4_becomes := goodIn_r _ [22, 2, 81, 82, 83, 84, 85, 86, 87, 88, 89, 90, 91, 92, 93, 94, 95, 96, 97, 98, 99] (by decide +kernel) (by decide +kernel)
set_option maxRecDepth 20000 in
theorem gX4_needed_X4_becomes : GoodIn wsX4_needed (wsV RX4 101 RX4 yX4_becomes wsX4_becomes) := goodIn_app (goodIn_of _ (by decide +kernel)) ggX4_needed_X4_becomes
set_option maxRecDepth 20000 in
theorem ggX4_needed_X4_knownIn : GoodIn wsX4_needed wsX4_knownIn := goodIn_r _ [26, 27, 28, 29, 5, 30, 31, 2, 32, 33, 34, 35, 36, 37, 38, 39, 40, 41, 42, 43, 16, 17, 18, 44, 45, 46, 47, 48, 49, 50, 51, 52, 53, 54, 55, 56, 57, 58, 59, 60, 61, 62, 63, 64, 65, 66, 67, 68, 69, 70, 71, 72, 73, 74, 75, 76, 77, 78, 79, 80, 81, 82, 83, 84, 85, 86, 87, 88, 89, 90, 91, 92, 93, 94, 95, 96, 97, 98, 99] (by decide +kernel) (by decide +kernel)
set_option maxRecDepth 20000 in
theorem gX4_needed_X4_knownIn : GoodIn wsX4_needed (wsV RX4 167 RX4 yX4_knownIn wsX4_knownIn) := goodIn_app (goodIn_of _ (by decide +kernel)) ggX4_needed_X4_knownIn
theorem dX4_needed_0 : decode cX4_needed 0 = .ok (.iload_n 1, 1) := by decide +kernel
theorem dX4_needed_1 : decode cX4_needed 1 = .ok (.invokestatic 94, 3) := by decide +kernel
theorem dX4_needed_4 : decode cX4_needed 4 = .ok (.ifCond .ne 10, 3) := by decide +kernel
theorem dX4_needed_7 : decode cX4_needed 7 = .ok (.aload_n 0, 1) := by decide +kernel
theorem dX4_needed_8 : decode cX4_needed 8 = .ok (.ldc 48, 2) := by decide +kernel
theorem dX4_needed_10 : decode cX4_needed 10 = .ok (.invokevirtual 77, 3) := by decide +kernel
theorem dX4_needed_13 : decode cX4_needed 13 = .ok (.ireturn, 1) := by decide +kernel
theorem dX4_needed_14 : decode cX4_needed 14 = .ok (.iconst 0, 1) := by decide +kernel
theorem dX4_needed_15 : decode cX4_needed 15 = .ok (.istore_n 2, 1) := by decide +kernel
theorem dX4_needed_16 : decode cX4_needed 16 = .ok (.iconst (-1), 1) := by decide +kernel
theorem dX4_needed_17 : decode cX4_needed 17 = .ok (.istore_n 3, 1) := by decide +kernel
theorem dX4_needed_18 : decode cX4_needed 18 = .ok (.iconst 0, 1) := by decide +kernel
theorem dX4_needed_19 : decode cX4_needed 19 = .ok (.istore 4, 2) := by decide +kernel
theorem dX4_needed_21 : decode cX4_needed 21 = .ok (.iload 4, 2) := by decide +kernel
theorem dX4_needed_23 : decode cX4_needed 23 = .ok (.bipush 12, 2) := by decide +kernel
theorem dX4_needed_25 : decode cX4_needed 25 = .ok (.if_icmp .ge 99, 3) := by decide +kernel
theorem dX4_needed_28 : decode cX4_needed 28 = .ok (.aload_n 0, 1) := by decide +kernel
theorem dX4_needed_29 : decode cX4_needed 29 = .ok (.iload 4, 2) := by decide +kernel
theorem dX4_needed_31 : decode cX4_needed 31 = .ok (.iconst 0, 1) := by decide +kernel
theorem dX4_needed_32 : decode cX4_needed 32 = .ok (.invokestatic 59, 3) := by decide +kernel
theorem dX4_needed_35 : decode cX4_needed 35 = .ok (.iconst 3, 1) := by decide +kernel
theorem dX4_needed_36 : decode cX4_needed 36 = .ok (.invokevirtual 101, 3) := by decide +kernel
theorem dX4_needed_39 : decode cX4_needed 39 = .ok (.istore 5, 2) := by decide +kernel
theorem dX4_needed_41 : decode cX4_needed 41 = .ok (.aload_n 0, 1) := by decide +kernel
theorem dX4_needed_42 : decode cX4_needed 42 = .ok (.iload 4, 2) := by decide +kernel
theorem dX4_needed_44 : decode cX4_needed 44 = .ok (.iconst 2, 1) := by decide +kernel
theorem dX4_needed_45 : decode cX4_needed 45 = .ok (.iload_n 1, 1) := by decide +kernel
theorem dX4_needed_46 : decode cX4_needed 46 = .ok (.iadd, 1) := by decide +kernel
theorem dX4_needed_47 : decode cX4_needed 47 = .ok (.invokestatic 59, 3) := by decide +kernel
theorem dX4_needed_50 : decode cX4_needed 50 = .ok (.iconst (-1), 1) := by decide +kernel
theorem dX4_needed_51 : decode cX4_needed 51 = .ok (.invokevirtual 101, 3) := by decide +kernel
theorem dX4_needed_54 : decode cX4_needed 54 = .ok (.istore 6, 2) := by decide +kernel
theorem dX4_needed_56 : decode cX4_needed 56 = .ok (.aload_n 0, 1) := by decide +kernel
theorem dX4_needed_57 : decode cX4_needed 57 = .ok (.iconst (-1), 1) := by decide +kernel
theorem dX4_needed_58 : decode cX4_needed 58 = .ok (.iload_n 1, 1) := by decide +kernel
theorem dX4_needed_59 : decode cX4_needed 59 = .ok (.invokevirtual 167, 3) := by decide +kernel
theorem dX4_needed_62 : decode cX4_needed 62 = .ok (.istore 7, 2) := by decide +kernel
theorem dX4_needed_64 : decode cX4_needed 64 = .ok (.aload_n 0, 1) := by decide +kernel
theorem dX4_needed_65 : decode cX4_needed 65 = .ok (.getfield 7, 3) := by decide +kernel
theorem dX4_needed_68 : decode cX4_needed 68 = .ok (.iload 4, 2) := by decide +kernel
theorem dX4_needed_70 : decode cX4_needed 70 = .ok (.iconst 0, 1) := by decide +kernel
theorem dX4_needed_71 : decode cX4_needed 71 = .ok (.invokestatic 59, 3) := by decide +kernel
theorem dX4_needed_74 : decode cX4_needed 74 = .ok (.iload 5, 2) := by decide +kernel
theorem dX4_needed_76 : decode cX4_needed 76 = .ok (.iastore, 1) := by decide +kernel
theorem dX4_needed_77 : decode cX4_needed 77 = .ok (.aload_n 0, 1) := by decide +kernel
theorem dX4_needed_78 : decode cX4_needed 78 = .ok (.getfield 7, 3) := by decide +kernel
theorem dX4_needed_81 : decode cX4_needed 81 = .ok (.iload 4, 2) := by decide +kernel
theorem dX4_needed_83 : decode cX4_needed 83 = .ok (.iconst 2, 1) := by decide +kernel
theorem dX4_needed_84 : decode cX4_needed 84 = .ok (.iload_n 1, 1) := by decide +kernel
theorem dX4_needed_85 : decode cX4_needed 85 = .ok (.iadd, 1) := by decide +kernel
theorem dX4_needed_86 : decode cX4_needed 86 = .ok (.invokestatic 59, 3) := by decide +kernel
theorem dX4_needed_89 : decode cX4_needed 89 = .ok (.iload 6, 2) := by decide +kernel
theorem dX4_needed_91 : decode cX4_needed 91 = .ok (.iastore, 1) := by decide +kernel
theorem dX4_needed_92 : decode cX4_needed 92 = .ok (.iload 7, 2) := by decide +kernel
theorem dX4_needed_94 : decode cX4_needed 94 = .ok (.iload_n 3, 1) := by decide +kernel
theorem dX4_needed_95 : decode cX4_needed 95 = .ok (.if_icmp .le 8, 3) := by decide +kernel
theorem dX4_needed_98 : decode cX4_needed 98 = .ok (.iload 4, 2) := by decide +kernel
theorem dX4_needed_100 : decode cX4_needed 100 = .ok (.goto 4, 3) := by decide +kernel
theorem dX4_needed_103 : decode cX4_needed 103 = .ok (.iload_n 2, 1) := by decide +kernel
theorem dX4_needed_104 : decode cX4_needed 104 = .ok (.istore_n 2, 1) := by decide +kernel
theorem dX4_needed_105 : decode cX4_needed 105 = .ok (.iload 7, 2) := by decide +kernel
theorem dX4_needed_107 : decode cX4_needed 107 = .ok (.iload_n 3, 1) := by decide +kernel
theorem dX4_needed_108 : decode cX4_needed 108 = .ok (.if_icmp .le 8, 3) := by decide +kernel
theorem dX4_needed_111 : decode cX4_needed 111 = .ok (.iload 7, 2) := by decide +kernel
theorem dX4_needed_113 : decode cX4_needed 113 = .ok (.goto 4, 3) := by decide +kernel
theorem dX4_needed_116 : decode cX4_needed 116 = .ok (.iload_n 3, 1) := by decide +kernel
theorem dX4_needed_117 : decode cX4_needed 117 = .ok (.istore_n 3, 1) := by decide +kernel
theorem dX4_needed_118 : decode cX4_needed 118 = .ok (.iinc 4 1, 3) := by decide +kernel
theorem dX4_needed_121 : decode cX4_needed 121 = .ok (.goto (-100), 3) := by decide +kernel
theorem dX4_needed_124 : decode cX4_needed 124 = .ok (.iload_n 2, 1) := by decide +kernel
theorem dX4_needed_125 : decode cX4_needed 125 = .ok (.ireturn, 1) := by decide +kernel
set_option maxRecDepth 20000 in
theorem ggX4_feed_X4_in : GoodIn wsX4_feed wsX4_in := goodIn_r _ [9] (by decide +kernel) (by decide +kernel)
set_option maxRecDepth 20000 in
theorem gX4_feed_X4_in : GoodIn wsX4_feed (va_wsS RX4 51 yX4_in wsX4_in) := goodIn_app (goodIn_of _ (by decide +kernel)) ggX4_feed_X4_in
set_option maxRecDepth 20000 in
theorem ggX4_feed_X4_finds : GoodIn wsX4_feed wsX4_finds := goodIn_r _ [13, 14, 2, 15, 16, 17, 18, 19, 20, 21, 22, 23, 24, 25, 26, 27, 28, 29, 30, 31, 32, 33] (by decide +kernel) (by decide +kernel)
set_option maxRecDepth 20000 in
theorem gX4_feed_X4_finds : GoodIn wsX4_feed (wsV RX4 77 RX4 yX4_finds wsX4_finds) := goodIn_app (goodIn_of _ (by decide +kernel)) ggX4_feed_X4_finds
theorem dX4_feed_0 : decode cX4_feed 0 = .ok (.iload_n 2, 1) := by decide +kernel
theorem dX4_feed_1 : decode cX4_feed 1 = .ok (.i2l, 1) := by decide +kernel
theorem dX4_feed_2 : decode cX4_feed 2 = .ok (.lconst 1, 1) := by decide +kernel
theorem dX4_feed_3 : decode cX4_feed 3 = .ok (.ldc2_w 192, 3) := by decide +kernel
theorem dX4_feed_6 : decode cX4_feed 6 = .ok (.invokestatic 51, 3) := by decide +kernel
theorem dX4_feed_9 : decode cX4_feed 9 = .ok (.ifCond .ne 10, 3) := by decide +kernel
theorem dX4_feed_12 : decode cX4_feed 12 = .ok (.aload_n 0, 1) := by decide +kernel
theorem dX4_feed_13 : decode cX4_feed 13 = .ok (.ldc 48, 2) := by decide +kernel
theorem dX4_feed_15 : decode cX4_feed 15 = .ok (.invokevirtual 77, 3) := by decide +kernel
theorem dX4_feed_18 : decode cX4_feed 18 = .ok (.ireturn, 1) := by decide +kernel
theorem dX4_feed_19 : decode cX4_feed 19 = .ok (.aload_n 0, 1) := by decide +kernel
theorem dX4_feed_20 : decode cX4_feed 20 = .ok (.getfield 194, 3) := by decide +kernel
theorem dX4_feed_23 : decode cX4_feed 23 = .ok (.iload_n 2, 1) := by decide +kernel
theorem dX4_feed_24 : decode cX4_feed 24 = .ok (.iadd, 1) := by decide +kernel
theorem dX4_feed_25 : decode cX4_feed 25 = .ok (.bipush 120, 2) := by decide +kernel
theorem dX4_feed_27 : decode cX4_feed 27 = .ok (.if_icmp .le 10, 3) := by decide +kernel
theorem dX4_feed_30 : decode cX4_feed 30 = .ok (.aload_n 0, 1) := by decide +kernel
theorem dX4_feed_31 : decode cX4_feed 31 = .ok (.ldc 197, 2) := by decide +kernel
theorem dX4_feed_33 : decode cX4_feed 33 = .ok (.invokevirtual 77, 3) := by decide +kernel
theorem dX4_feed_36 : decode cX4_feed 36 = .ok (.ireturn, 1) := by decide +kernel
theorem dX4_feed_37 : decode cX4_feed 37 = .ok (.iload_n 2, 1) := by decide +kernel
theorem dX4_feed_38 : decode cX4_feed 38 = .ok (.iconst 1, 1) := by decide +kernel
theorem dX4_feed_39 : decode cX4_feed 39 = .ok (.isub, 1) := by decide +kernel
theorem dX4_feed_40 : decode cX4_feed 40 = .ok (.istore_n 3, 1) := by decide +kernel
theorem dX4_feed_41 : decode cX4_feed 41 = .ok (.iload_n 3, 1) := by decide +kernel
theorem dX4_feed_42 : decode cX4_feed 42 = .ok (.ifCond .lt 38, 3) := by decide +kernel
theorem dX4_feed_45 : decode cX4_feed 45 = .ok (.aload_n 0, 1) := by decide +kernel
theorem dX4_feed_46 : decode cX4_feed 46 = .ok (.getfield 28, 3) := by decide +kernel
theorem dX4_feed_49 : decode cX4_feed 49 = .ok (.aload_n 0, 1) := by decide +kernel
theorem dX4_feed_50 : decode cX4_feed 50 = .ok (.getfield 194, 3) := by decide +kernel
theorem dX4_feed_53 : decode cX4_feed 53 = .ok (.iload_n 1, 1) := by decide +kernel
theorem dX4_feed_54 : decode cX4_feed 54 = .ok (.bipush 8, 2) := by decide +kernel
theorem dX4_feed_56 : decode cX4_feed 56 = .ok (.iload_n 3, 1) := by decide +kernel
theorem dX4_feed_57 : decode cX4_feed 57 = .ok (.imul, 1) := by decide +kernel
theorem dX4_feed_58 : decode cX4_feed 58 = .ok (.ishr, 1) := by decide +kernel
theorem dX4_feed_59 : decode cX4_feed 59 = .ok (.sipush 255, 3) := by decide +kernel
theorem dX4_feed_62 : decode cX4_feed 62 = .ok (.iand, 1) := by decide +kernel
theorem dX4_feed_63 : decode cX4_feed 63 = .ok (.iastore, 1) := by decide +kernel
theorem dX4_feed_64 : decode cX4_feed 64 = .ok (.aload_n 0, 1) := by decide +kernel
theorem dX4_feed_65 : decode cX4_feed 65 = .ok (.dup, 1) := by decide +kernel
theorem dX4_feed_66 : decode cX4_feed 66 = .ok (.getfield 194, 3) := by decide +kernel
theorem dX4_feed_69 : decode cX4_feed 69 = .ok (.iconst 1, 1) := by decide +kernel
theorem dX4_feed_70 : decode cX4_feed 70 = .ok (.iadd, 1) := by decide +kernel
theorem dX4_feed_71 : decode cX4_feed 71 = .ok (.putfield 194, 3) := by decide +kernel
theorem dX4_feed_74 : decode cX4_feed 74 = .ok (.iinc 3 (-1), 3) := by decide +kernel
theorem dX4_feed_77 : decode cX4_feed 77 = .ok (.goto (-36), 3) := by decide +kernel
theorem dX4_feed_80 : decode cX4_feed 80 = .ok (.aload_n 0, 1) := by decide +kernel
theorem dX4_feed_81 : decode cX4_feed 81 = .ok (.getfield 194, 3) := by decide +kernel
theorem dX4_feed_84 : decode cX4_feed 84 = .ok (.ireturn, 1) := by decide +kernel
theorem dX4_wipe_0 : decode cX4_wipe 0 = .ok (.aload_n 0, 1) := by decide +kernel
theorem dX4_wipe_1 : decode cX4_wipe 1 = .ok (.getfield 194, 3) := by decide +kernel
theorem dX4_wipe_4 : decode cX4_wipe 4 = .ok (.istore_n 1, 1) := by decide +kernel
theorem dX4_wipe_5 : decode cX4_wipe 5 = .ok (.aload_n 0, 1) := by decide +kernel
theorem dX4_wipe_6 : decode cX4_wipe 6 = .ok (.iconst 0, 1) := by decide +kernel
theorem dX4_wipe_7 : decode cX4_wipe 7 = .ok (.putfield 194, 3) := by decide +kernel
theorem dX4_wipe_10 : decode cX4_wipe 10 = .ok (.iload_n 1, 1) := by decide +kernel
theorem dX4_wipe_11 : decode cX4_wipe 11 = .ok (.ireturn, 1) := by decide +kernel
theorem dX4_byteAt_0 : decode cX4_byteAt 0 = .ok (.iload_n 1, 1) := by decide +kernel
theorem dX4_byteAt_1 : decode cX4_byteAt 1 = .ok (.aload_n 0, 1) := by decide +kernel
theorem dX4_byteAt_2 : decode cX4_byteAt 2 = .ok (.getfield 194, 3) := by decide +kernel
theorem dX4_byteAt_5 : decode cX4_byteAt 5 = .ok (.if_icmp .ge 12, 3) := by decide +kernel
theorem dX4_byteAt_8 : decode cX4_byteAt 8 = .ok (.aload_n 0, 1) := by decide +kernel
theorem dX4_byteAt_9 : decode cX4_byteAt 9 = .ok (.getfield 28, 3) := by decide +kernel
theorem dX4_byteAt_12 : decode cX4_byteAt 12 = .ok (.iload_n 1, 1) := by decide +kernel
theorem dX4_byteAt_13 : decode cX4_byteAt 13 = .ok (.iaload, 1) := by decide +kernel
theorem dX4_byteAt_14 : decode cX4_byteAt 14 = .ok (.goto 4, 3) := by decide +kernel
theorem dX4_byteAt_17 : decode cX4_byteAt 17 = .ok (.iconst (-1), 1) := by decide +kernel
theorem dX4_byteAt_18 : decode cX4_byteAt 18 = .ok (.ireturn, 1) := by decide +kernel
set_option maxRecDepth 20000 in
theorem ggX4_isLetter_X4_in : GoodIn wsX4_isLetter wsX4_in := goodIn_r _ [6] (by decide +kernel) (by decide +kernel)
set_option maxRecDepth 20000 in
theorem gX4_isLetter_X4_in : GoodIn wsX4_isLetter (va_wsS RX4 51 yX4_in wsX4_in) := goodIn_app (goodIn_of _ (by decide +kernel)) ggX4_isLetter_X4_in
theorem dX4_isLetter_0 : decode cX4_isLetter 0 = .ok (.iload_n 0, 1) := by decide +kernel
theorem dX4_isLetter_1 : decode cX4_isLetter 1 = .ok (.i2l, 1) := by decide +kernel
theorem dX4_isLetter_2 : decode cX4_isLetter 2 = .ok (.ldc2_w 198, 3) := by decide +kernel
theorem dX4_isLetter_5 : decode cX4_isLetter 5 = .ok (.ldc2_w 200, 3) := by decide +kernel
theorem dX4_isLetter_8 : decode cX4_isLetter 8 = .ok (.invokestatic 51, 3) := by decide +kernel
theorem dX4_isLetter_11 : decode cX4_isLetter 11 = .ok (.ireturn, 1) := by decide +kernel
set_option maxRecDepth 20000 in
theorem ggX4_isDigit_X4_in : GoodIn wsX4_isDigit wsX4_in := goodIn_r _ [6] (by decide +kernel) (by decide +kernel)
set_option maxRecDepth 20000 in
theorem gX4_isDigit_X4_in : GoodIn wsX4_isDigit (va_wsS RX4 51 yX4_in wsX4_in) := goodIn_app (goodIn_of _ (by decide +kernel)) ggX4_isDigit_X4_in
theorem dX4_isDigit_0 : decode cX4_isDigit 0 = .ok (.iload_n 0, 1) := by decide +kernel
theorem dX4_isDigit_1 : decode cX4_isDigit 1 = .ok (.i2l, 1) := by decide +kernel
theorem dX4_isDigit_2 : decode cX4_isDigit 2 = .ok (.ldc2_w 202, 3) := by decide +kernel
theorem dX4_isDigit_5 : decode cX4_isDigit 5 = .ok (.ldc2_w 204, 3) := by decide +kernel
theorem dX4_isDigit_8 : decode cX4_isDigit 8 = .ok (.invokestatic 51, 3) := by decide +kernel
theorem dX4_isDigit_11 : decode cX4_isDigit 11 = .ok (.ireturn, 1) := by decide +kernel
set_option maxRecDepth 20000 in
theorem ggX4_token_X4_byteAt : GoodIn wsX4_token wsX4_byteAt := goodIn_r _ [8, 3, 9, 23, 24, 25, 26, 27, 28, 29, 30, 31, 32, 33, 34, 35, 36, 37, 38, 39, 40, 41] (by decide +kernel) (by decide +kernel)
set_option maxRecDepth 20000 in
theorem gX4_token_X4_byteAt : GoodIn wsX4_token (wsV RX4 212 RX4 yX4_byteAt wsX4_byteAt) := goodIn_app (goodIn_of _ (by decide +kernel)) ggX4_token_X4_byteAt
set_option maxRecDepth 20000 in
theorem ggX4_token_X4_isLetter : GoodIn wsX4_token wsX4_isLetter := goodIn_r _ [12, 13, 14, 15, 16, 7, 17] (by decide +kernel) (by decide +kernel)
set_option maxRecDepth 20000 in
theorem gX4_token_X4_isLetter : GoodIn wsX4_token (va_wsS RX4 215 yX4_isLetter wsX4_isLetter) := goodIn_app (goodIn_of _ (by decide +kernel)) ggX4_token_X4_isLetter
set_option maxRecDepth 20000 in
theorem ggX4_token_X4_isDigit : GoodIn wsX4_token wsX4_isDigit := goodIn_r _ [20, 21, 22, 15, 16, 7, 17] (by decide +kernel) (by decide +kernel)
set_option maxRecDepth 20000 in
theorem gX4_token_X4_isDigit : GoodIn wsX4_token (va_wsS RX4 218 yX4_isDigit wsX4_isDigit) := goodIn_app (goodIn_of _ (by decide +kernel)) ggX4_token_X4_isDigit
theorem dX4_token_0 : decode cX4_token 0 = .ok (.aload_n 0, 1) := by decide +kernel
theorem dX4_token_1 : decode cX4_token 1 = .ok (.aload_n 0, 1) := by decide +kernel
theorem dX4_token_2 : decode cX4_token 2 = .ok (.getfield 206, 3) := by decide +kernel
theorem dX4_token_5 : decode cX4_token 5 = .ok (.putfield 209, 3) := by decide +kernel
theorem dX4_token_8 : decode cX4_token 8 = .ok (.aload_n 0, 1) := by decide +kernel
theorem dX4_token_9 : decode cX4_token 9 = .ok (.aload_n 0, 1) := by decide +kernel
theorem dX4_token_10 : decode cX4_token 10 = .ok (.getfield 209, 3) := by decide +kernel
theorem dX4_token_13 : decode cX4_token 13 = .ok (.invokevirtual 212, 3) := by decide +kernel
theorem dX4_token_16 : decode cX4_token 16 = .ok (.bipush 32, 2) := by decide +kernel
theorem dX4_token_18 : decode cX4_token 18 = .ok (.if_icmp .ne 16, 3) := by decide +kernel
theorem dX4_token_21 : decode cX4_token 21 = .ok (.aload_n 0, 1) := by decide +kernel
theorem dX4_token_22 : decode cX4_token 22 = .ok (.dup, 1) := by decide +kernel
theorem dX4_token_23 : decode cX4_token 23 = .ok (.getfield 209, 3) := by decide +kernel
theorem dX4_token_26 : decode cX4_token 26 = .ok (.iconst 1, 1) := by decide +kernel
theorem dX4_token_27 : decode cX4_token 27 = .ok (.iadd, 1) := by decide +kernel
theorem dX4_token_28 : decode cX4_token 28 = .ok (.putfield 209, 3) := by decide +kernel
theorem dX4_token_31 : decode cX4_token 31 = .ok (.goto (-23), 3) := by decide +kernel
theorem dX4_token_34 : decode cX4_token 34 = .ok (.aload_n 0, 1) := by decide +kernel
theorem dX4_token_35 : decode cX4_token 35 = .ok (.aload_n 0, 1) := by decide +kernel
theorem dX4_token_36 : decode cX4_token 36 = .ok (.getfield 209, 3) := by decide +kernel
theorem dX4_token_39 : decode cX4_token 39 = .ok (.invokevirtual 212, 3) := by decide +kernel
theorem dX4_token_42 : decode cX4_token 42 = .ok (.invokestatic 215, 3) := by decide +kernel
theorem dX4_token_45 : decode cX4_token 45 = .ok (.istore_n 1, 1) := by decide +kernel
theorem dX4_token_46 : decode cX4_token 46 = .ok (.aload_n 0, 1) := by decide +kernel
theorem dX4_token_47 : decode cX4_token 47 = .ok (.aload_n 0, 1) := by decide +kernel
theorem dX4_token_48 : decode cX4_token 48 = .ok (.getfield 209, 3) := by decide +kernel
theorem dX4_token_51 : decode cX4_token 51 = .ok (.invokevirtual 212, 3) := by decide +kernel
theorem dX4_token_54 : decode cX4_token 54 = .ok (.invokestatic 218, 3) := by decide +kernel
theorem dX4_token_57 : decode cX4_token 57 = .ok (.istore_n 2, 1) := by decide +kernel
theorem dX4_token_58 : decode cX4_token 58 = .ok (.aload_n 0, 1) := by decide +kernel
theorem dX4_token_59 : decode cX4_token 59 = .ok (.aload_n 0, 1) := by decide +kernel
theorem dX4_token_60 : decode cX4_token 60 = .ok (.getfield 209, 3) := by decide +kernel
theorem dX4_token_63 : decode cX4_token 63 = .ok (.aload_n 0, 1) := by decide +kernel
theorem dX4_token_64 : decode cX4_token 64 = .ok (.getfield 194, 3) := by decide +kernel
theorem dX4_token_67 : decode cX4_token 67 = .ok (.if_icmp .ge 12, 3) := by decide +kernel
theorem dX4_token_70 : decode cX4_token 70 = .ok (.aload_n 0, 1) := by decide +kernel
theorem dX4_token_71 : decode cX4_token 71 = .ok (.getfield 209, 3) := by decide +kernel
theorem dX4_token_74 : decode cX4_token 74 = .ok (.iconst 1, 1) := by decide +kernel
theorem dX4_token_75 : decode cX4_token 75 = .ok (.iadd, 1) := by decide +kernel
theorem dX4_token_76 : decode cX4_token 76 = .ok (.goto 7, 3) := by decide +kernel
theorem dX4_token_79 : decode cX4_token 79 = .ok (.aload_n 0, 1) := by decide +kernel
theorem dX4_token_80 : decode cX4_token 80 = .ok (.getfield 209, 3) := by decide +kernel
theorem dX4_token_83 : decode cX4_token 83 = .ok (.putfield 206, 3) := by decide +kernel
theorem dX4_token_86 : decode cX4_token 86 = .ok (.iload_n 1, 1) := by decide +kernel
theorem dX4_token_87 : decode cX4_token 87 = .ok (.ifCond .eq 17, 3) := by decide +kernel
theorem dX4_token_90 : decode cX4_token 90 = .ok (.aload_n 0, 1) := by decide +kernel
theorem dX4_token_91 : decode cX4_token 91 = .ok (.aload_n 0, 1) := by decide +kernel
theorem dX4_token_92 : decode cX4_token 92 = .ok (.getfield 206, 3) := by decide +kernel
theorem dX4_token_95 : decode cX4_token 95 = .ok (.invokevirtual 212, 3) := by decide +kernel
theorem dX4_token_98 : decode cX4_token 98 = .ok (.invokestatic 215, 3) := by decide +kernel
theorem dX4_token_101 : decode cX4_token 101 = .ok (.ifCond .ne 21, 3) := by decide +kernel
theorem dX4_token_104 : decode cX4_token 104 = .ok (.iload_n 2, 1) := by decide +kernel
theorem dX4_token_105 : decode cX4_token 105 = .ok (.ifCond .eq 30, 3) := by decide +kernel
theorem dX4_token_108 : decode cX4_token 108 = .ok (.aload_n 0, 1) := by decide +kernel
theorem dX4_token_109 : decode cX4_token 109 = .ok (.aload_n 0, 1) := by decide +kernel
theorem dX4_token_110 : decode cX4_token 110 = .ok (.getfield 206, 3) := by decide +kernel
theorem dX4_token_113 : decode cX4_token 113 = .ok (.invokevirtual 212, 3) := by decide +kernel
theorem dX4_token_116 : decode cX4_token 116 = .ok (.invokestatic 218, 3) := by decide +kernel
theorem dX4_token_119 : decode cX4_token 119 = .ok (.ifCond .eq 16, 3) := by decide +kernel
theorem dX4_token_122 : decode cX4_token 122 = .ok (.aload_n 0, 1) := by decide +kernel
theorem dX4_token_123 : decode cX4_token 123 = .ok (.dup, 1) := by decide +kernel
theorem dX4_token_124 : decode cX4_token 124 = .ok (.getfield 206, 3) := by decide +kernel
theorem dX4_token_127 : decode cX4_token 127 = .ok (.iconst 1, 1) := by decide +kernel
theorem dX4_token_128 : decode cX4_token 128 = .ok (.iadd, 1) := by decide +kernel
theorem dX4_token_129 : decode cX4_token 129 = .ok (.putfield 206, 3) := by decide +kernel
theorem dX4_token_132 : decode cX4_token 132 = .ok (.goto (-46), 3) := by decide +kernel
theorem dX4_token_135 : decode cX4_token 135 = .ok (.return_, 1) := by decide +kernel
set_option maxRecDepth 20000 in
theorem ggX4_must_X4_token : GoodIn wsX4_must wsX4_token := goodIn_r _ [6, 7, 8, 9, 10, 11, 12, 5, 13, 14, 15, 16, 17, 18, 19, 20, 21, 22, 23, 24, 25, 26, 27, 28, 29, 30, 31, 32, 33, 34, 35, 36, 37, 38, 39, 40, 41, 42, 43, 44, 45, 46] (by decide +kernel) (by decide +kernel)
set_option maxRecDepth 20000 in
theorem gX4_must_X4_token : GoodIn wsX4_must (wsV RX4 225 RX4 yX4_token wsX4_token) := goodIn_app (goodIn_of _ (by decide +kernel)) ggX4_must_X4_token
theorem dX4_must_0 : decode cX4_must 0 = .ok (.aload_n 0, 1) := by decide +kernel
theorem dX4_must_1 : decode cX4_must 1 = .ok (.aload_n 0, 1) := by decide +kernel
theorem dX4_must_2 : decode cX4_must 2 = .ok (.getfield 221, 3) := by decide +kernel
theorem dX4_must_5 : decode cX4_must 5 = .ok (.ifCond .ne 7, 3) := by decide +kernel
theorem dX4_must_8 : decode cX4_must 8 = .ok (.iload_n 1, 1) := by decide +kernel
theorem dX4_must_9 : decode cX4_must 9 = .ok (.ifCond .ne 7, 3) := by decide +kernel
theorem dX4_must_12 : decode cX4_must 12 = .ok (.iconst 1, 1) := by decide +kernel
theorem dX4_must_13 : decode cX4_must 13 = .ok (.goto 4, 3) := by decide +kernel
theorem dX4_must_16 : decode cX4_must 16 = .ok (.iconst 0, 1) := by decide +kernel
theorem dX4_must_17 : decode cX4_must 17 = .ok (.putfield 221, 3) := by decide +kernel
theorem dX4_must_20 : decode cX4_must 20 = .ok (.aload_n 0, 1) := by decide +kernel
theorem dX4_must_21 : decode cX4_must 21 = .ok (.getfield 221, 3) := by decide +kernel
theorem dX4_must_24 : decode cX4_must 24 = .ok (.ifCond .ne 7, 3) := by decide +kernel
theorem dX4_must_27 : decode cX4_must 27 = .ok (.aload_n 0, 1) := by decide +kernel
theorem dX4_must_28 : decode cX4_must 28 = .ok (.invokevirtual 225, 3) := by decide +kernel
theorem dX4_must_31 : decode cX4_must 31 = .ok (.return_, 1) := by decide +kernel
set_option maxRecDepth 20000 in
theorem ggX4_word_X4_byteAt : GoodIn wsX4_word wsX4_byteAt := goodIn_r _ [11, 12, 5, 21, 22, 23, 24, 25, 26, 27, 28, 29, 30, 31, 32, 33, 34, 35, 36, 37, 38, 39] (by decide +kernel) (by decide +kernel)
set_option maxRecDepth 20000 in
theorem gX4_word_X4_byteAt : GoodIn wsX4_word (wsV RX4 212 RX4 yX4_byteAt wsX4_byteAt) := goodIn_app (goodIn_of _ (by decide +kernel)) ggX4_word_X4_byteAt
set_option maxRecDepth 20000 in
theorem ggX4_word_X4_isLetter : GoodIn wsX4_word wsX4_isLetter := goodIn_r _ [15, 16, 17, 18, 19, 10, 20] (by decide +kernel) (by decide +kernel)
set_option maxRecDepth 20000 in
theorem gX4_word_X4_isLetter : GoodIn wsX4_word (va_wsS RX4 215 yX4_isLetter wsX4_isLetter) := goodIn_app (goodIn_of _ (by decide +kernel)) ggX4_word_X4_isLetter
theorem dX4_word_0 : decode cX4_word 0 = .ok (.lconst 0, 1) := by decide +kernel
theorem dX4_word_1 : decode cX4_word 1 = .ok (.lstore_n 1, 1) := by decide +kernel
theorem dX4_word_2 : decode cX4_word 2 = .ok (.aload_n 0, 1) := by decide +kernel
theorem dX4_word_3 : decode cX4_word 3 = .ok (.getfield 209, 3) := by decide +kernel
theorem dX4_word_6 : decode cX4_word 6 = .ok (.istore_n 3, 1) := by decide +kernel
theorem dX4_word_7 : decode cX4_word 7 = .ok (.iload_n 3, 1) := by decide +kernel
theorem dX4_word_8 : decode cX4_word 8 = .ok (.aload_n 0, 1) := by decide +kernel
theorem dX4_word_9 : decode cX4_word 9 = .ok (.getfield 206, 3) := by decide +kernel
theorem dX4_word_12 : decode cX4_word 12 = .ok (.if_icmp .ge 38, 3) := by decide +kernel
theorem dX4_word_15 : decode cX4_word 15 = .ok (.lload_n 1, 1) := by decide +kernel
theorem dX4_word_16 : decode cX4_word 16 = .ok (.ldc2_w 228, 3) := by decide +kernel
theorem dX4_word_19 : decode cX4_word 19 = .ok (.lcmp, 1) := by decide +kernel
theorem dX4_word_20 : decode cX4_word 20 = .ok (.ifCond .le 7, 3) := by decide +kernel
theorem dX4_word_23 : decode cX4_word 23 = .ok (.lload_n 1, 1) := by decide +kernel
theorem dX4_word_24 : decode cX4_word 24 = .ok (.goto 19, 3) := by decide +kernel
theorem dX4_word_27 : decode cX4_word 27 = .ok (.ldc2_w 230, 3) := by decide +kernel
theorem dX4_word_30 : decode cX4_word 30 = .ok (.lload_n 1, 1) := by decide +kernel
theorem dX4_word_31 : decode cX4_word 31 = .ok (.lmul, 1) := by decide +kernel
theorem dX4_word_32 : decode cX4_word 32 = .ok (.aload_n 0, 1) := by decide +kernel
theorem dX4_word_33 : decode cX4_word 33 = .ok (.getfield 28, 3) := by decide +kernel
theorem dX4_word_36 : decode cX4_word 36 = .ok (.iload_n 3, 1) := by decide +kernel
theorem dX4_word_37 : decode cX4_word 37 = .ok (.iaload, 1) := by decide +kernel
theorem dX4_word_38 : decode cX4_word 38 = .ok (.bipush 96, 2) := by decide +kernel
theorem dX4_word_40 : decode cX4_word 40 = .ok (.isub, 1) := by decide +kernel
theorem dX4_word_41 : decode cX4_word 41 = .ok (.i2l, 1) := by decide +kernel
theorem dX4_word_42 : decode cX4_word 42 = .ok (.ladd, 1) := by decide +kernel
theorem dX4_word_43 : decode cX4_word 43 = .ok (.lstore_n 1, 1) := by decide +kernel
theorem dX4_word_44 : decode cX4_word 44 = .ok (.iinc 3 1, 3) := by decide +kernel
theorem dX4_word_47 : decode cX4_word 47 = .ok (.goto (-40), 3) := by decide +kernel
theorem dX4_word_50 : decode cX4_word 50 = .ok (.aload_n 0, 1) := by decide +kernel
theorem dX4_word_51 : decode cX4_word 51 = .ok (.getfield 221, 3) := by decide +kernel
theorem dX4_word_54 : decode cX4_word 54 = .ok (.ifCond .ne 17, 3) := by decide +kernel
theorem dX4_word_57 : decode cX4_word 57 = .ok (.aload_n 0, 1) := by decide +kernel
theorem dX4_word_58 : decode cX4_word 58 = .ok (.aload_n 0, 1) := by decide +kernel
theorem dX4_word_59 : decode cX4_word 59 = .ok (.getfield 209, 3) := by decide +kernel
theorem dX4_word_62 : decode cX4_word 62 = .ok (.invokevirtual 212, 3) := by decide +kernel
theorem dX4_word_65 : decode cX4_word 65 = .ok (.invokestatic 215, 3) := by decide +kernel
theorem dX4_word_68 : decode cX4_word 68 = .ok (.ifCond .ne 7, 3) := by decide +kernel
theorem dX4_word_71 : decode cX4_word 71 = .ok (.lconst 0, 1) := by decide +kernel
theorem dX4_word_72 : decode cX4_word 72 = .ok (.goto 4, 3) := by decide +kernel
theorem dX4_word_75 : decode cX4_word 75 = .ok (.lload_n 1, 1) := by decide +kernel
theorem dX4_word_76 : decode cX4_word 76 = .ok (.lreturn, 1) := by decide +kernel
set_option maxRecDepth 20000 in
theorem ggX4_number_X4_byteAt : GoodIn wsX4_number wsX4_byteAt := goodIn_r _ [10, 11, 4, 33, 34, 35, 36, 37, 38, 39, 40, 41, 42, 43, 44, 45, 46, 47, 48, 49, 50, 51] (by decide +kernel) (by decide +kernel)
set_option maxRecDepth 20000 in
theorem gX4_number_X4_byteAt : GoodIn wsX4_number (wsV RX4 212 RX4 yX4_byteAt wsX4_byteAt) := goodIn_app (goodIn_of _ (by decide +kernel)) ggX4_number_X4_byteAt
set_option maxRecDepth 20000 in
theorem ggX4_number_X4_isDigit : GoodIn wsX4_number wsX4_isDigit := goodIn_r _ [14, 15, 16, 17, 18, 9, 19] (by decide +kernel) (by decide +kernel)
set_option maxRecDepth 20000 in
theorem gX4_number_X4_isDigit : GoodIn wsX4_number (va_wsS RX4 218 yX4_isDigit wsX4_isDigit) := goodIn_app (goodIn_of _ (by decide +kernel)) ggX4_number_X4_isDigit
set_option maxRecDepth 20000 in
theorem ggX4_number_X4_in : GoodIn wsX4_number wsX4_in := goodIn_r _ [19] (by decide +kernel) (by decide +kernel)
set_option maxRecDepth 20000 in
theorem gX4_number_X4_in : GoodIn wsX4_number (va_wsS RX4 51 yX4_in wsX4_in) := goodIn_app (goodIn_of _ (by decide +kernel)) ggX4_number_X4_in
set_option maxRecDepth 20000 in
theorem ggX4_number_X4_must : GoodIn wsX4_number wsX4_must := goodIn_r _ [23, 1, 24, 25, 26, 9, 27, 3, 2, 11, 6, 7, 8, 10, 4, 28, 29, 30, 31, 32, 17, 18, 19, 12, 13, 14, 15, 16, 33, 34, 35, 36, 37, 38, 39, 40, 41, 42, 43, 44, 45, 46, 47, 48, 49, 50, 51] (by decide +kernel) (by decide +kernel)
set_option maxRecDepth 20000 in
theorem gX4_number_X4_must : GoodIn wsX4_number (wsV RX4 235 RX4 yX4_must wsX4_must) := goodIn_app (goodIn_of _ (by decide +kernel)) ggX4_number_X4_must
theorem dX4_number_0 : decode cX4_number 0 = .ok (.aload_n 0, 1) := by decide +kernel
theorem dX4_number_1 : decode cX4_number 1 = .ok (.getfield 221, 3) := by decide +kernel
theorem dX4_number_4 : decode cX4_number 4 = .ok (.ifCond .eq 4, 3) := by decide +kernel
theorem dX4_number_7 : decode cX4_number 7 = .ok (.return_, 1) := by decide +kernel
theorem dX4_number_8 : decode cX4_number 8 = .ok (.aload_n 0, 1) := by decide +kernel
theorem dX4_number_9 : decode cX4_number 9 = .ok (.aload_n 0, 1) := by decide +kernel
theorem dX4_number_10 : decode cX4_number 10 = .ok (.getfield 209, 3) := by decide +kernel
theorem dX4_number_13 : decode cX4_number 13 = .ok (.invokevirtual 212, 3) := by decide +kernel
theorem dX4_number_16 : decode cX4_number 16 = .ok (.invokestatic 218, 3) := by decide +kernel
theorem dX4_number_19 : decode cX4_number 19 = .ok (.istore_n 3, 1) := by decide +kernel
theorem dX4_number_20 : decode cX4_number 20 = .ok (.iconst 0, 1) := by decide +kernel
theorem dX4_number_21 : decode cX4_number 21 = .ok (.istore 4, 2) := by decide +kernel
theorem dX4_number_23 : decode cX4_number 23 = .ok (.aload_n 0, 1) := by decide +kernel
theorem dX4_number_24 : decode cX4_number 24 = .ok (.getfield 209, 3) := by decide +kernel
theorem dX4_number_27 : decode cX4_number 27 = .ok (.istore 5, 2) := by decide +kernel
theorem dX4_number_29 : decode cX4_number 29 = .ok (.iload 5, 2) := by decide +kernel
theorem dX4_number_31 : decode cX4_number 31 = .ok (.aload_n 0, 1) := by decide +kernel
theorem dX4_number_32 : decode cX4_number 32 = .ok (.getfield 206, 3) := by decide +kernel
theorem dX4_number_35 : decode cX4_number 35 = .ok (.if_icmp .ge 44, 3) := by decide +kernel
theorem dX4_number_38 : decode cX4_number 38 = .ok (.iload_n 3, 1) := by decide +kernel
theorem dX4_number_39 : decode cX4_number 39 = .ok (.ifCond .eq 40, 3) := by decide +kernel
theorem dX4_number_42 : decode cX4_number 42 = .ok (.iload 4, 2) := by decide +kernel
theorem dX4_number_44 : decode cX4_number 44 = .ok (.sipush 999, 3) := by decide +kernel
theorem dX4_number_47 : decode cX4_number 47 = .ok (.if_icmp .le 8, 3) := by decide +kernel
theorem dX4_number_50 : decode cX4_number 50 = .ok (.iload 4, 2) := by decide +kernel
theorem dX4_number_52 : decode cX4_number 52 = .ok (.goto 19, 3) := by decide +kernel
theorem dX4_number_55 : decode cX4_number 55 = .ok (.bipush 10, 2) := by decide +kernel
theorem dX4_number_57 : decode cX4_number 57 = .ok (.iload 4, 2) := by decide +kernel
theorem dX4_number_59 : decode cX4_number 59 = .ok (.imul, 1) := by decide +kernel
theorem dX4_number_60 : decode cX4_number 60 = .ok (.aload_n 0, 1) := by decide +kernel
theorem dX4_number_61 : decode cX4_number 61 = .ok (.getfield 28, 3) := by decide +kernel
theorem dX4_number_64 : decode cX4_number 64 = .ok (.iload 5, 2) := by decide +kernel
theorem dX4_number_66 : decode cX4_number 66 = .ok (.iaload, 1) := by decide +kernel
theorem dX4_number_67 : decode cX4_number 67 = .ok (.iadd, 1) := by decide +kernel
theorem dX4_number_68 : decode cX4_number 68 = .ok (.bipush 48, 2) := by decide +kernel
theorem dX4_number_70 : decode cX4_number 70 = .ok (.isub, 1) := by decide +kernel
theorem dX4_number_71 : decode cX4_number 71 = .ok (.istore 4, 2) := by decide +kernel
theorem dX4_number_73 : decode cX4_number 73 = .ok (.iinc 5 1, 3) := by decide +kernel
theorem dX4_number_76 : decode cX4_number 76 = .ok (.goto (-47), 3) := by decide +kernel
theorem dX4_number_79 : decode cX4_number 79 = .ok (.aload_n 0, 1) := by decide +kernel
theorem dX4_number_80 : decode cX4_number 80 = .ok (.iload 4, 2) := by decide +kernel
theorem dX4_number_82 : decode cX4_number 82 = .ok (.putfield 232, 3) := by decide +kernel
theorem dX4_number_85 : decode cX4_number 85 = .ok (.aload_n 0, 1) := by decide +kernel
theorem dX4_number_86 : decode cX4_number 86 = .ok (.iload_n 3, 1) := by decide +kernel
theorem dX4_number_87 : decode cX4_number 87 = .ok (.ifCond .eq 20, 3) := by decide +kernel
theorem dX4_number_90 : decode cX4_number 90 = .ok (.iload 4, 2) := by decide +kernel
theorem dX4_number_92 : decode cX4_number 92 = .ok (.i2l, 1) := by decide +kernel
theorem dX4_number_93 : decode cX4_number 93 = .ok (.iload_n 1, 1) := by decide +kernel
theorem dX4_number_94 : decode cX4_number 94 = .ok (.i2l, 1) := by decide +kernel
theorem dX4_number_95 : decode cX4_number 95 = .ok (.iload_n 2, 1) := by decide +kernel
theorem dX4_number_96 : decode cX4_number 96 = .ok (.i2l, 1) := by decide +kernel
theorem dX4_number_97 : decode cX4_number 97 = .ok (.invokestatic 51, 3) := by decide +kernel
theorem dX4_number_100 : decode cX4_number 100 = .ok (.ifCond .eq 7, 3) := by decide +kernel
theorem dX4_number_103 : decode cX4_number 103 = .ok (.iconst 1, 1) := by decide +kernel
theorem dX4_number_104 : decode cX4_number 104 = .ok (.goto 4, 3) := by decide +kernel
theorem dX4_number_107 : decode cX4_number 107 = .ok (.iconst 0, 1) := by decide +kernel
theorem dX4_number_108 : decode cX4_number 108 = .ok (.invokevirtual 235, 3) := by decide +kernel
theorem dX4_number_111 : decode cX4_number 111 = .ok (.return_, 1) := by decide +kernel
set_option maxRecDepth 20000 in
theorem ggX4_kindHere_X4_word : GoodIn wsX4_kindHere wsX4_word := goodIn_r _ [11, 12, 13, 14, 15, 16, 17, 18, 19, 20, 10, 21, 22, 23, 24, 25, 26, 27, 28, 29, 30, 31, 32, 33, 34, 35, 36, 37, 38, 39, 40, 41, 42, 43, 44, 45, 46, 47, 48, 49] (by decide +kernel) (by decide +kernel)
set_option maxRecDepth 20000 in
theorem gX4_kindHere_X4_word : GoodIn wsX4_kindHere (wsV RX4 239 RX4 yX4_word wsX4_word) := goodIn_app (goodIn_of _ (by decide +kernel)) ggX4_kindHere_X4_word
theorem dX4_kindHere_0 : decode cX4_kindHere 0 = .ok (.aload_n 0, 1) := by decide +kernel
theorem dX4_kindHere_1 : decode cX4_kindHere 1 = .ok (.invokevirtual 239, 3) := by decide +kernel
theorem dX4_kindHere_4 : decode cX4_kindHere 4 = .ok (.lstore_n 1, 1) := by decide +kernel
theorem dX4_kindHere_5 : decode cX4_kindHere 5 = .ok (.lload_n 1, 1) := by decide +kernel
theorem dX4_kindHere_6 : decode cX4_kindHere 6 = .ok (.ldc2_w 243, 3) := by decide +kernel
theorem dX4_kindHere_9 : decode cX4_kindHere 9 = .ok (.lcmp, 1) := by decide +kernel
theorem dX4_kindHere_10 : decode cX4_kindHere 10 = .ok (.ifCond .ne 7, 3) := by decide +kernel
theorem dX4_kindHere_13 : decode cX4_kindHere 13 = .ok (.iconst 0, 1) := by decide +kernel
theorem dX4_kindHere_14 : decode cX4_kindHere 14 = .ok (.goto 64, 3) := by decide +kernel
theorem dX4_kindHere_17 : decode cX4_kindHere 17 = .ok (.lload_n 1, 1) := by decide +kernel
theorem dX4_kindHere_18 : decode cX4_kindHere 18 = .ok (.ldc2_w 245, 3) := by decide +kernel
theorem dX4_kindHere_21 : decode cX4_kindHere 21 = .ok (.lcmp, 1) := by decide +kernel
theorem dX4_kindHere_22 : decode cX4_kindHere 22 = .ok (.ifCond .ne 7, 3) := by decide +kernel
theorem dX4_kindHere_25 : decode cX4_kindHere 25 = .ok (.iconst 1, 1) := by decide +kernel
theorem dX4_kindHere_26 : decode cX4_kindHere 26 = .ok (.goto 52, 3) := by decide +kernel
theorem dX4_kindHere_29 : decode cX4_kindHere 29 = .ok (.lload_n 1, 1) := by decide +kernel
theorem dX4_kindHere_30 : decode cX4_kindHere 30 = .ok (.ldc2_w 247, 3) := by decide +kernel
theorem dX4_kindHere_33 : decode cX4_kindHere 33 = .ok (.lcmp, 1) := by decide +kernel
theorem dX4_kindHere_34 : decode cX4_kindHere 34 = .ok (.ifCond .ne 7, 3) := by decide +kernel
theorem dX4_kindHere_37 : decode cX4_kindHere 37 = .ok (.iconst 2, 1) := by decide +kernel
theorem dX4_kindHere_38 : decode cX4_kindHere 38 = .ok (.goto 40, 3) := by decide +kernel
theorem dX4_kindHere_41 : decode cX4_kindHere 41 = .ok (.lload_n 1, 1) := by decide +kernel
theorem dX4_kindHere_42 : decode cX4_kindHere 42 = .ok (.ldc2_w 249, 3) := by decide +kernel
theorem dX4_kindHere_45 : decode cX4_kindHere 45 = .ok (.lcmp, 1) := by decide +kernel
theorem dX4_kindHere_46 : decode cX4_kindHere 46 = .ok (.ifCond .ne 7, 3) := by decide +kernel
theorem dX4_kindHere_49 : decode cX4_kindHere 49 = .ok (.iconst 3, 1) := by decide +kernel
theorem dX4_kindHere_50 : decode cX4_kindHere 50 = .ok (.goto 28, 3) := by decide +kernel
theorem dX4_kindHere_53 : decode cX4_kindHere 53 = .ok (.lload_n 1, 1) := by decide +kernel
theorem dX4_kindHere_54 : decode cX4_kindHere 54 = .ok (.ldc2_w 251, 3) := by decide +kernel
theorem dX4_kindHere_57 : decode cX4_kindHere 57 = .ok (.lcmp, 1) := by decide +kernel
theorem dX4_kindHere_58 : decode cX4_kindHere 58 = .ok (.ifCond .ne 7, 3) := by decide +kernel
theorem dX4_kindHere_61 : decode cX4_kindHere 61 = .ok (.iconst 4, 1) := by decide +kernel
theorem dX4_kindHere_62 : decode cX4_kindHere 62 = .ok (.goto 16, 3) := by decide +kernel
theorem dX4_kindHere_65 : decode cX4_kindHere 65 = .ok (.lload_n 1, 1) := by decide +kernel
theorem dX4_kindHere_66 : decode cX4_kindHere 66 = .ok (.ldc2_w 253, 3) := by decide +kernel
theorem dX4_kindHere_69 : decode cX4_kindHere 69 = .ok (.lcmp, 1) := by decide +kernel
theorem dX4_kindHere_70 : decode cX4_kindHere 70 = .ok (.ifCond .ne 7, 3) := by decide +kernel
theorem dX4_kindHere_73 : decode cX4_kindHere 73 = .ok (.iconst 5, 1) := by decide +kernel
theorem dX4_kindHere_74 : decode cX4_kindHere 74 = .ok (.goto 4, 3) := by decide +kernel
theorem dX4_kindHere_77 : decode cX4_kindHere 77 = .ok (.iconst (-1), 1) := by decide +kernel
theorem dX4_kindHere_78 : decode cX4_kindHere 78 = .ok (.ireturn, 1) := by decide +kernel
set_option maxRecDepth 20000 in
theorem ggX4_treeItem_X4_must : GoodIn wsX4_treeItem wsX4_must := goodIn_r _ [10, 3, 11, 12, 13, 9, 14, 15, 16, 17, 18, 19, 20, 21, 22, 23, 24, 25, 26, 27, 28, 29, 30, 31, 32, 33, 34, 35, 53, 54, 55, 56, 57, 58, 59, 60, 61, 62, 63, 64, 65, 66, 67, 68, 69, 70, 71] (by decide +kernel) (by decide +kernel)
set_option maxRecDepth 20000 in
theorem gX4_treeItem_X4_must : GoodIn wsX4_treeItem (wsV RX4 235 RX4 yX4_must wsX4_must) := goodIn_app (goodIn_of _ (by decide +kernel)) ggX4_treeItem_X4_must
set_option maxRecDepth 20000 in
theorem ggX4_treeItem_X4_word : GoodIn wsX4_treeItem wsX4_word := goodIn_r _ [39, 16, 15, 40, 41, 22, 3, 18, 19, 20, 9, 21, 17, 23, 24, 25, 26, 27, 28, 29, 30, 53, 54, 55, 56, 57, 58, 59, 60, 61, 62, 63, 64, 65, 66, 67, 68, 69, 70, 71] (by decide +kernel) (by decide +kernel)
set_option maxRecDepth 20000 in
theorem gX4_treeItem_X4_word : GoodIn wsX4_treeItem (wsV RX4 239 RX4 yX4_word wsX4_word) := goodIn_app (goodIn_of _ (by decide +kernel)) ggX4_treeItem_X4_word
set_option maxRecDepth 20000 in
theorem ggX4_treeItem_X4_number : GoodIn wsX4_treeItem wsX4_number := goodIn_r _ [45, 3, 16, 15, 22, 2, 18, 19, 20, 9, 21, 17, 31, 32, 33, 34, 35, 28, 29, 30, 6, 7, 8, 10, 11, 12, 13, 14, 23, 24, 25, 26, 27, 53, 54, 55, 56, 57, 58, 59, 60, 61, 62, 63, 64, 65, 66, 67, 68, 69, 70, 71] (by decide +kernel) (by decide +kernel)
set_option maxRecDepth 20000 in
theorem gX4_treeItem_X4_number : GoodIn wsX4_treeItem (wsV RX4 257 RX4 yX4_number wsX4_number) := goodIn_app (goodIn_of _ (by decide +kernel)) ggX4_treeItem_X4_number
set_option maxRecDepth 20000 in
theorem ggX4_treeItem_X4_sets : GoodIn wsX4_treeItem wsX4_sets := goodIn_r _ [49, 5, 50, 51, 9, 52, 53, 54, 55, 56, 57, 58, 59, 60, 61, 62, 63, 64, 65, 66, 67, 68, 69, 70, 71] (by decide +kernel) (by decide +kernel)
set_option maxRecDepth 20000 in
theorem gX4_treeItem_X4_sets : GoodIn wsX4_treeItem (wsV RX4 44 RX4 yX4_sets wsX4_sets) := goodIn_app (goodIn_of _ (by decide +kernel)) ggX4_treeItem_X4_sets
set_option maxRecDepth 20000 in
theorem ggX4_treeItem_X4_spotOf : GoodIn wsX4_treeItem wsX4_spotOf := goodIn_r _ [52] (by decide +kernel) (by decide +kernel)
set_option maxRecDepth 20000 in
theorem gX4_treeItem_X4_spotOf : GoodIn wsX4_treeItem (va_wsS RX4 59 yX4_spotOf wsX4_spotOf) := goodIn_app (goodIn_of _ (by decide +kernel)) ggX4_treeItem_X4_spotOf
theorem dX4_treeItem_0 : decode cX4_treeItem 0 = .ok (.aload_n 0, 1) := by decide +kernel
theorem dX4_treeItem_1 : decode cX4_treeItem 1 = .ok (.iconst 1, 1) := by decide +kernel
theorem dX4_treeItem_2 : decode cX4_treeItem 2 = .ok (.invokevirtual 235, 3) := by decide +kernel
theorem dX4_treeItem_5 : decode cX4_treeItem 5 = .ok (.aload_n 0, 1) := by decide +kernel
theorem dX4_treeItem_6 : decode cX4_treeItem 6 = .ok (.aload_n 0, 1) := by decide +kernel
theorem dX4_treeItem_7 : decode cX4_treeItem 7 = .ok (.invokevirtual 239, 3) := by decide +kernel
theorem dX4_treeItem_10 : decode cX4_treeItem 10 = .ok (.ldc2_w 255, 3) := by decide +kernel
theorem dX4_treeItem_13 : decode cX4_treeItem 13 = .ok (.lcmp, 1) := by decide +kernel
theorem dX4_treeItem_14 : decode cX4_treeItem 14 = .ok (.ifCond .ne 7, 3) := by decide +kernel
theorem dX4_treeItem_17 : decode cX4_treeItem 17 = .ok (.iconst 1, 1) := by decide +kernel
theorem dX4_treeItem_18 : decode cX4_treeItem 18 = .ok (.goto 4, 3) := by decide +kernel
theorem dX4_treeItem_21 : decode cX4_treeItem 21 = .ok (.iconst 0, 1) := by decide +kernel
theorem dX4_treeItem_22 : decode cX4_treeItem 22 = .ok (.invokevirtual 235, 3) := by decide +kernel
theorem dX4_treeItem_25 : decode cX4_treeItem 25 = .ok (.aload_n 0, 1) := by decide +kernel
theorem dX4_treeItem_26 : decode cX4_treeItem 26 = .ok (.iconst 0, 1) := by decide +kernel
theorem dX4_treeItem_27 : decode cX4_treeItem 27 = .ok (.iconst 5, 1) := by decide +kernel
theorem dX4_treeItem_28 : decode cX4_treeItem 28 = .ok (.invokevirtual 257, 3) := by decide +kernel
theorem dX4_treeItem_31 : decode cX4_treeItem 31 = .ok (.iconst 2, 1) := by decide +kernel
theorem dX4_treeItem_32 : decode cX4_treeItem 32 = .ok (.aload_n 0, 1) := by decide +kernel
theorem dX4_treeItem_33 : decode cX4_treeItem 33 = .ok (.getfield 232, 3) := by decide +kernel
theorem dX4_treeItem_36 : decode cX4_treeItem 36 = .ok (.imul, 1) := by decide +kernel
theorem dX4_treeItem_37 : decode cX4_treeItem 37 = .ok (.istore_n 2, 1) := by decide +kernel
theorem dX4_treeItem_38 : decode cX4_treeItem 38 = .ok (.aload_n 0, 1) := by decide +kernel
theorem dX4_treeItem_39 : decode cX4_treeItem 39 = .ok (.iconst 0, 1) := by decide +kernel
theorem dX4_treeItem_40 : decode cX4_treeItem 40 = .ok (.iconst 1, 1) := by decide +kernel
theorem dX4_treeItem_41 : decode cX4_treeItem 41 = .ok (.invokevirtual 257, 3) := by decide +kernel
theorem dX4_treeItem_44 : decode cX4_treeItem 44 = .ok (.aload_n 0, 1) := by decide +kernel
theorem dX4_treeItem_45 : decode cX4_treeItem 45 = .ok (.getfield 221, 3) := by decide +kernel
theorem dX4_treeItem_48 : decode cX4_treeItem 48 = .ok (.ifCond .eq 4, 3) := by decide +kernel
theorem dX4_treeItem_51 : decode cX4_treeItem 51 = .ok (.return_, 1) := by decide +kernel
theorem dX4_treeItem_52 : decode cX4_treeItem 52 = .ok (.iload_n 2, 1) := by decide +kernel
theorem dX4_treeItem_53 : decode cX4_treeItem 53 = .ok (.aload_n 0, 1) := by decide +kernel
theorem dX4_treeItem_54 : decode cX4_treeItem 54 = .ok (.getfield 232, 3) := by decide +kernel
theorem dX4_treeItem_57 : decode cX4_treeItem 57 = .ok (.iadd, 1) := by decide +kernel
theorem dX4_treeItem_58 : decode cX4_treeItem 58 = .ok (.istore_n 2, 1) := by decide +kernel
theorem dX4_treeItem_59 : decode cX4_treeItem 59 = .ok (.aload_n 0, 1) := by decide +kernel
theorem dX4_treeItem_60 : decode cX4_treeItem 60 = .ok (.iload_n 2, 1) := by decide +kernel
theorem dX4_treeItem_61 : decode cX4_treeItem 61 = .ok (.iload_n 1, 1) := by decide +kernel
theorem dX4_treeItem_62 : decode cX4_treeItem 62 = .ok (.iconst 0, 1) := by decide +kernel
theorem dX4_treeItem_63 : decode cX4_treeItem 63 = .ok (.invokevirtual 44, 3) := by decide +kernel
theorem dX4_treeItem_66 : decode cX4_treeItem 66 = .ok (.aload_n 0, 1) := by decide +kernel
theorem dX4_treeItem_67 : decode cX4_treeItem 67 = .ok (.invokevirtual 239, 3) := by decide +kernel
theorem dX4_treeItem_70 : decode cX4_treeItem 70 = .ok (.ldc2_w 260, 3) := by decide +kernel
theorem dX4_treeItem_73 : decode cX4_treeItem 73 = .ok (.lcmp, 1) := by decide +kernel
theorem dX4_treeItem_74 : decode cX4_treeItem 74 = .ok (.ifCond .ne 41, 3) := by decide +kernel
theorem dX4_treeItem_77 : decode cX4_treeItem 77 = .ok (.aload_n 0, 1) := by decide +kernel
theorem dX4_treeItem_78 : decode cX4_treeItem 78 = .ok (.iconst 1, 1) := by decide +kernel
theorem dX4_treeItem_79 : decode cX4_treeItem 79 = .ok (.invokevirtual 235, 3) := by decide +kernel
theorem dX4_treeItem_82 : decode cX4_treeItem 82 = .ok (.aload_n 0, 1) := by decide +kernel
theorem dX4_treeItem_83 : decode cX4_treeItem 83 = .ok (.iconst 0, 1) := by decide +kernel
theorem dX4_treeItem_84 : decode cX4_treeItem 84 = .ok (.sipush 999, 3) := by decide +kernel
theorem dX4_treeItem_87 : decode cX4_treeItem 87 = .ok (.invokevirtual 257, 3) := by decide +kernel
theorem dX4_treeItem_90 : decode cX4_treeItem 90 = .ok (.aload_n 0, 1) := by decide +kernel
theorem dX4_treeItem_91 : decode cX4_treeItem 91 = .ok (.getfield 7, 3) := by decide +kernel
theorem dX4_treeItem_94 : decode cX4_treeItem 94 = .ok (.iload_n 2, 1) := by decide +kernel
theorem dX4_treeItem_95 : decode cX4_treeItem 95 = .ok (.iconst 1, 1) := by decide +kernel
theorem dX4_treeItem_96 : decode cX4_treeItem 96 = .ok (.invokestatic 59, 3) := by decide +kernel
theorem dX4_treeItem_99 : decode cX4_treeItem 99 = .ok (.aload_n 0, 1) := by decide +kernel
theorem dX4_treeItem_100 : decode cX4_treeItem 100 = .ok (.getfield 221, 3) := by decide +kernel
theorem dX4_treeItem_103 : decode cX4_treeItem 103 = .ok (.ifCond .eq 7, 3) := by decide +kernel
theorem dX4_treeItem_106 : decode cX4_treeItem 106 = .ok (.iconst 0, 1) := by decide +kernel
theorem dX4_treeItem_107 : decode cX4_treeItem 107 = .ok (.goto 7, 3) := by decide +kernel
theorem dX4_treeItem_110 : decode cX4_treeItem 110 = .ok (.aload_n 0, 1) := by decide +kernel
theorem dX4_treeItem_111 : decode cX4_treeItem 111 = .ok (.getfield 232, 3) := by decide +kernel
theorem dX4_treeItem_114 : decode cX4_treeItem 114 = .ok (.iastore, 1) := by decide +kernel
theorem dX4_treeItem_115 : decode cX4_treeItem 115 = .ok (.return_, 1) := by decide +kernel
set_option maxRecDepth 20000 in
theorem ggX4_wordItem_X4_must : GoodIn wsX4_wordItem wsX4_must := goodIn_r _ [7, 2, 8, 9, 10, 6, 11, 12, 13, 14, 15, 16, 17, 18, 19, 20, 21, 22, 23, 24, 25, 26, 27, 28, 29, 30, 31, 32, 57, 58, 59, 60, 61, 62, 63, 64, 65, 66, 67, 68, 69, 70, 71, 72, 73, 74, 75] (by decide +kernel) (by decide +kernel)
set_option maxRecDepth 20000 in
theorem gX4_wordItem_X4_must : GoodIn wsX4_wordItem (wsV RX4 235 RX4 yX4_must wsX4_must) := goodIn_app (goodIn_of _ (by decide +kernel)) ggX4_wordItem_X4_must
set_option maxRecDepth 20000 in
theorem ggX4_wordItem_X4_number : GoodIn wsX4_wordItem wsX4_number := goodIn_r _ [36, 2, 13, 12, 19, 1, 15, 16, 17, 6, 18, 14, 28, 29, 30, 31, 32, 25, 26, 27, 3, 4, 5, 7, 8, 9, 10, 11, 20, 21, 22, 23, 24, 57, 58, 59, 60, 61, 62, 63, 64, 65, 66, 67, 68, 69, 70, 71, 72, 73, 74, 75] (by decide +kernel) (by decide +kernel)
set_option maxRecDepth 20000 in
theorem gX4_wordItem_X4_number : GoodIn wsX4_wordItem (wsV RX4 257 RX4 yX4_number wsX4_number) := goodIn_app (goodIn_of _ (by decide +kernel)) ggX4_wordItem_X4_number
set_option maxRecDepth 20000 in
theorem ggX4_wordItem_X4_learns : GoodIn wsX4_wordItem wsX4_learns := goodIn_r _ [40, 41, 42, 43, 44, 6, 45, 46, 47, 48, 49, 50, 51, 52, 53, 54, 55, 56, 57, 58, 59, 60, 61, 62, 63, 64, 65, 66, 67, 68, 69, 70, 71, 72, 73, 74, 75] (by decide +kernel) (by decide +kernel)
set_option maxRecDepth 20000 in
theorem gX4_wordItem_X4_learns : GoodIn wsX4_wordItem (wsV RX4 128 RX4 yX4_learns wsX4_learns) := goodIn_app (goodIn_of _ (by decide +kernel)) ggX4_wordItem_X4_learns
theorem dX4_wordItem_0 : decode cX4_wordItem 0 = .ok (.aload_n 0, 1) := by decide +kernel
theorem dX4_wordItem_1 : decode cX4_wordItem 1 = .ok (.iconst 1, 1) := by decide +kernel
theorem dX4_wordItem_2 : decode cX4_wordItem 2 = .ok (.invokevirtual 235, 3) := by decide +kernel
theorem dX4_wordItem_5 : decode cX4_wordItem 5 = .ok (.aload_n 0, 1) := by decide +kernel
theorem dX4_wordItem_6 : decode cX4_wordItem 6 = .ok (.iconst 0, 1) := by decide +kernel
theorem dX4_wordItem_7 : decode cX4_wordItem 7 = .ok (.bipush 7, 2) := by decide +kernel
theorem dX4_wordItem_9 : decode cX4_wordItem 9 = .ok (.invokevirtual 257, 3) := by decide +kernel
theorem dX4_wordItem_12 : decode cX4_wordItem 12 = .ok (.aload_n 0, 1) := by decide +kernel
theorem dX4_wordItem_13 : decode cX4_wordItem 13 = .ok (.getfield 232, 3) := by decide +kernel
theorem dX4_wordItem_16 : decode cX4_wordItem 16 = .ok (.istore_n 1, 1) := by decide +kernel
theorem dX4_wordItem_17 : decode cX4_wordItem 17 = .ok (.aload_n 0, 1) := by decide +kernel
theorem dX4_wordItem_18 : decode cX4_wordItem 18 = .ok (.iconst 0, 1) := by decide +kernel
theorem dX4_wordItem_19 : decode cX4_wordItem 19 = .ok (.iconst 1, 1) := by decide +kernel
theorem dX4_wordItem_20 : decode cX4_wordItem 20 = .ok (.invokevirtual 257, 3) := by decide +kernel
theorem dX4_wordItem_23 : decode cX4_wordItem 23 = .ok (.aload_n 0, 1) := by decide +kernel
theorem dX4_wordItem_24 : decode cX4_wordItem 24 = .ok (.getfield 221, 3) := by decide +kernel
theorem dX4_wordItem_27 : decode cX4_wordItem 27 = .ok (.ifCond .ne 15, 3) := by decide +kernel
theorem dX4_wordItem_30 : decode cX4_wordItem 30 = .ok (.aload_n 0, 1) := by decide +kernel
theorem dX4_wordItem_31 : decode cX4_wordItem 31 = .ok (.aload_n 0, 1) := by decide +kernel
theorem dX4_wordItem_32 : decode cX4_wordItem 32 = .ok (.getfield 232, 3) := by decide +kernel
theorem dX4_wordItem_35 : decode cX4_wordItem 35 = .ok (.iconst 1, 1) := by decide +kernel
theorem dX4_wordItem_36 : decode cX4_wordItem 36 = .ok (.iload_n 1, 1) := by decide +kernel
theorem dX4_wordItem_37 : decode cX4_wordItem 37 = .ok (.ishl, 1) := by decide +kernel
theorem dX4_wordItem_38 : decode cX4_wordItem 38 = .ok (.invokevirtual 128, 3) := by decide +kernel
theorem dX4_wordItem_41 : decode cX4_wordItem 41 = .ok (.istore_n 2, 1) := by decide +kernel
theorem dX4_wordItem_42 : decode cX4_wordItem 42 = .ok (.return_, 1) := by decide +kernel
set_option maxRecDepth 20000 in
theorem ggX4_item_X4_kindHere : GoodIn wsX4_item wsX4_kindHere := goodIn_r _ [10, 11, 12, 13, 14, 15, 16, 17, 18, 19, 9, 20, 21, 22, 23, 24, 25, 4, 26, 27, 28, 29, 30, 31, 32, 33, 34, 35, 36, 37, 38, 98, 99, 100, 101, 102, 103, 104, 105, 106, 107, 108, 109, 110, 111, 112, 113, 114, 115, 116] (by decide +kernel) (by decide +kernel)
set_option maxRecDepth 20000 in
theorem gX4_item_X4_kindHere : GoodIn wsX4_item (wsV RX4 262 RX4 yX4_kindHere wsX4_kindHere) := goodIn_app (goodIn_of _ (by decide +kernel)) ggX4_item_X4_kindHere
set_option maxRecDepth 20000 in
theorem ggX4_item_X4_word : GoodIn wsX4_item wsX4_word := goodIn_r _ [20, 21, 22, 23, 24, 25, 4, 26, 27, 28, 9, 29, 30, 31, 32, 33, 34, 35, 36, 37, 38, 98, 99, 100, 101, 102, 103, 104, 105, 106, 107, 108, 109, 110, 111, 112, 113, 114, 115, 116] (by decide +kernel) (by decide +kernel)
set_option maxRecDepth 20000 in
theorem gX4_item_X4_word : GoodIn wsX4_item (wsV RX4 239 RX4 yX4_word wsX4_word) := goodIn_app (goodIn_of _ (by decide +kernel)) ggX4_item_X4_word
set_option maxRecDepth 20000 in
theorem ggX4_item_X4_treeItem : GoodIn wsX4_item wsX4_treeItem := goodIn_r _ [42, 43, 5, 4, 44, 45, 46, 47, 48, 9, 49, 50, 51, 52, 53, 22, 21, 30, 26, 27, 28, 29, 25, 31, 32, 33, 34, 35, 36, 37, 38, 54, 55, 56, 57, 58, 17, 18, 19, 20, 23, 24, 59, 60, 61, 62, 63, 64, 65, 66, 67, 68, 69, 98, 99, 100, 101, 102, 103, 104, 105, 106, 107, 108, 109, 110, 111, 112, 113, 114, 115, 116] (by decide +kernel) (by decide +kernel)
set_option maxRecDepth 20000 in
theorem gX4_item_X4_treeItem : GoodIn wsX4_item (wsV RX4 265 RX4 yX4_treeItem wsX4_treeItem) := goodIn_app (goodIn_of _ (by decide +kernel)) ggX4_item_X4_treeItem
set_option maxRecDepth 20000 in
theorem ggX4_item_X4_wordItem : GoodIn wsX4_item wsX4_wordItem := goodIn_r _ [73, 5, 4, 46, 47, 48, 9, 49, 50, 51, 52, 53, 22, 21, 30, 26, 27, 28, 29, 25, 31, 32, 33, 34, 35, 36, 37, 38, 54, 55, 56, 57, 58, 59, 60, 61, 62, 74, 75, 76, 77, 45, 78, 79, 80, 81, 82, 83, 84, 85, 86, 87, 88, 89, 67, 68, 69, 98, 99, 100, 101, 102, 103, 104, 105, 106, 107, 108, 109, 110, 111, 112, 113, 114, 115, 116] (by decide +kernel) (by decide +kernel)
set_option maxRecDepth 20000 in
theorem gX4_item_X4_wordItem : GoodIn wsX4_item (wsV RX4 270 RX4 yX4_wordItem wsX4_wordItem) := goodIn_app (goodIn_of _ (by decide +kernel)) ggX4_item_X4_wordItem
set_option maxRecDepth 20000 in
theorem ggX4_item_X4_must : GoodIn wsX4_item wsX4_must := goodIn_r _ [49, 4, 50, 51, 52, 9, 53, 22, 21, 30, 26, 27, 28, 29, 25, 31, 32, 33, 34, 35, 36, 37, 38, 54, 55, 56, 57, 58, 98, 99, 100, 101, 102, 103, 104, 105, 106, 107, 108, 109, 110, 111, 112, 113, 114, 115, 116] (by decide +kernel) (by decide +kernel)
set_option maxRecDepth 20000 in
theorem gX4_item_X4_must : GoodIn wsX4_item (wsV RX4 235 RX4 yX4_must wsX4_must) := goodIn_app (goodIn_of _ (by decide +kernel)) ggX4_item_X4_must
set_option maxRecDepth 20000 in
theorem ggX4_item_X4_number : GoodIn wsX4_item wsX4_number := goodIn_r _ [62, 4, 21, 22, 25, 5, 26, 27, 28, 9, 29, 30, 54, 55, 56, 57, 58, 36, 37, 38, 46, 47, 48, 49, 50, 51, 52, 53, 31, 32, 33, 34, 35, 98, 99, 100, 101, 102, 103, 104, 105, 106, 107, 108, 109, 110, 111, 112, 113, 114, 115, 116] (by decide +kernel) (by decide +kernel)
set_option maxRecDepth 20000 in
theorem gX4_item_X4_number : GoodIn wsX4_item (wsV RX4 257 RX4 yX4_number wsX4_number) := goodIn_app (goodIn_of _ (by decide +kernel)) ggX4_item_X4_number
set_option maxRecDepth 20000 in
theorem ggX4_item_X4_meets : GoodIn wsX4_item wsX4_meets := goodIn_r _ [93, 45, 94, 95, 96, 9, 97, 98, 99, 100, 101, 102, 103, 104, 105, 106, 107, 108, 109, 110, 111, 112, 113, 114, 115, 116] (by decide +kernel) (by decide +kernel)
set_option maxRecDepth 20000 in
theorem gX4_item_X4_meets : GoodIn wsX4_item (wsV RX4 113 RX4 yX4_meets wsX4_meets) := goodIn_app (goodIn_of _ (by decide +kernel)) ggX4_item_X4_meets
theorem dX4_item_0 : decode cX4_item 0 = .ok (.aload_n 0, 1) := by decide +kernel
theorem dX4_item_1 : decode cX4_item 1 = .ok (.invokevirtual 262, 3) := by decide +kernel
theorem dX4_item_4 : decode cX4_item 4 = .ok (.istore_n 1, 1) := by decide +kernel
theorem dX4_item_5 : decode cX4_item 5 = .ok (.aload_n 0, 1) := by decide +kernel
theorem dX4_item_6 : decode cX4_item 6 = .ok (.invokevirtual 239, 3) := by decide +kernel
theorem dX4_item_9 : decode cX4_item 9 = .ok (.lstore_n 2, 1) := by decide +kernel
theorem dX4_item_10 : decode cX4_item 10 = .ok (.iload_n 1, 1) := by decide +kernel
theorem dX4_item_11 : decode cX4_item 11 = .ok (.ifCond .lt 11, 3) := by decide +kernel
theorem dX4_item_14 : decode cX4_item 14 = .ok (.aload_n 0, 1) := by decide +kernel
theorem dX4_item_15 : decode cX4_item 15 = .ok (.iload_n 1, 1) := by decide +kernel
theorem dX4_item_16 : decode cX4_item 16 = .ok (.invokevirtual 265, 3) := by decide +kernel
theorem dX4_item_19 : decode cX4_item 19 = .ok (.goto 80, 3) := by decide +kernel
theorem dX4_item_22 : decode cX4_item 22 = .ok (.lload_n 2, 1) := by decide +kernel
theorem dX4_item_23 : decode cX4_item 23 = .ok (.ldc2_w 268, 3) := by decide +kernel
theorem dX4_item_26 : decode cX4_item 26 = .ok (.lcmp, 1) := by decide +kernel
theorem dX4_item_27 : decode cX4_item 27 = .ok (.ifCond .ne 10, 3) := by decide +kernel
theorem dX4_item_30 : decode cX4_item 30 = .ok (.aload_n 0, 1) := by decide +kernel
theorem dX4_item_31 : decode cX4_item 31 = .ok (.invokevirtual 270, 3) := by decide +kernel
theorem dX4_item_34 : decode cX4_item 34 = .ok (.goto 65, 3) := by decide +kernel
theorem dX4_item_37 : decode cX4_item 37 = .ok (.lload_n 2, 1) := by decide +kernel
theorem dX4_item_38 : decode cX4_item 38 = .ok (.ldc2_w 273, 3) := by decide +kernel
theorem dX4_item_41 : decode cX4_item 41 = .ok (.lcmp, 1) := by decide +kernel
theorem dX4_item_42 : decode cX4_item 42 = .ok (.ifCond .ne 7, 3) := by decide +kernel
theorem dX4_item_45 : decode cX4_item 45 = .ok (.iconst 1, 1) := by decide +kernel
theorem dX4_item_46 : decode cX4_item 46 = .ok (.goto 4, 3) := by decide +kernel
theorem dX4_item_49 : decode cX4_item 49 = .ok (.iconst 0, 1) := by decide +kernel
theorem dX4_item_50 : decode cX4_item 50 = .ok (.istore 4, 2) := by decide +kernel
theorem dX4_item_52 : decode cX4_item 52 = .ok (.aload_n 0, 1) := by decide +kernel
theorem dX4_item_53 : decode cX4_item 53 = .ok (.iload 4, 2) := by decide +kernel
theorem dX4_item_55 : decode cX4_item 55 = .ok (.ifCond .ne 11, 3) := by decide +kernel
theorem dX4_item_58 : decode cX4_item 58 = .ok (.lload_n 2, 1) := by decide +kernel
theorem dX4_item_59 : decode cX4_item 59 = .ok (.ldc2_w 275, 3) := by decide +kernel
theorem dX4_item_62 : decode cX4_item 62 = .ok (.lcmp, 1) := by decide +kernel
theorem dX4_item_63 : decode cX4_item 63 = .ok (.ifCond .ne 7, 3) := by decide +kernel
theorem dX4_item_66 : decode cX4_item 66 = .ok (.iconst 1, 1) := by decide +kernel
theorem dX4_item_67 : decode cX4_item 67 = .ok (.goto 4, 3) := by decide +kernel
theorem dX4_item_70 : decode cX4_item 70 = .ok (.iconst 0, 1) := by decide +kernel
theorem dX4_item_71 : decode cX4_item 71 = .ok (.invokevirtual 235, 3) := by decide +kernel
theorem dX4_item_74 : decode cX4_item 74 = .ok (.aload_n 0, 1) := by decide +kernel
theorem dX4_item_75 : decode cX4_item 75 = .ok (.iconst 0, 1) := by decide +kernel
theorem dX4_item_76 : decode cX4_item 76 = .ok (.iconst 5, 1) := by decide +kernel
theorem dX4_item_77 : decode cX4_item 77 = .ok (.invokevirtual 257, 3) := by decide +kernel
theorem dX4_item_80 : decode cX4_item 80 = .ok (.aload_n 0, 1) := by decide +kernel
theorem dX4_item_81 : decode cX4_item 81 = .ok (.getfield 221, 3) := by decide +kernel
theorem dX4_item_84 : decode cX4_item 84 = .ok (.ifCond .ne 15, 3) := by decide +kernel
theorem dX4_item_87 : decode cX4_item 87 = .ok (.aload_n 0, 1) := by decide +kernel
theorem dX4_item_88 : decode cX4_item 88 = .ok (.aload_n 0, 1) := by decide +kernel
theorem dX4_item_89 : decode cX4_item 89 = .ok (.getfield 232, 3) := by decide +kernel
theorem dX4_item_92 : decode cX4_item 92 = .ok (.iload 4, 2) := by decide +kernel
theorem dX4_item_94 : decode cX4_item 94 = .ok (.invokevirtual 113, 3) := by decide +kernel
theorem dX4_item_97 : decode cX4_item 97 = .ok (.istore 5, 2) := by decide +kernel
theorem dX4_item_99 : decode cX4_item 99 = .ok (.return_, 1) := by decide +kernel
set_option maxRecDepth 20000 in
theorem ggX4_avenue_X4_saves : GoodIn wsX4_avenue wsX4_saves := goodIn_r _ [9, 10, 11, 111, 112, 113, 114, 115, 116, 117, 118, 119, 120, 121, 122, 123, 124, 125, 126, 127, 128, 129] (by decide +kernel) (by decide +kernel)
set_option maxRecDepth 20000 in
theorem gX4_avenue_X4_saves : GoodIn wsX4_avenue (wsV RX4 277 RX4 yX4_saves wsX4_saves) := goodIn_app (goodIn_of _ (by decide +kernel)) ggX4_avenue_X4_saves
set_option maxRecDepth 20000 in
theorem ggX4_avenue_X4_token : GoodIn wsX4_avenue wsX4_token := goodIn_r _ [15, 2, 3, 4, 16, 17, 18, 8, 19, 20, 21, 22, 23, 24, 25, 26, 27, 28, 29, 30, 31, 32, 33, 111, 112, 113, 114, 115, 116, 117, 118, 119, 120, 121, 122, 123, 124, 125, 126, 127, 128, 129] (by decide +kernel) (by decide +kernel)
set_option maxRecDepth 20000 in
theorem gX4_avenue_X4_token : GoodIn wsX4_avenue (wsV RX4 225 RX4 yX4_token wsX4_token) := goodIn_app (goodIn_of _ (by decide +kernel)) ggX4_avenue_X4_token
set_option maxRecDepth 20000 in
theorem ggX4_avenue_X4_item : GoodIn wsX4_avenue wsX4_item := goodIn_r _ [37, 38, 39, 40, 1, 41, 42, 43, 44, 8, 45, 46, 47, 48, 49, 50, 51, 52, 53, 54, 55, 3, 2, 56, 57, 20, 16, 17, 18, 19, 4, 21, 22, 23, 24, 25, 26, 27, 28, 58, 59, 60, 61, 62, 63, 11, 64, 65, 66, 67, 12, 13, 14, 15, 29, 30, 31, 32, 33, 68, 69, 70, 71, 72, 73, 74, 75, 76, 77, 78, 79, 80, 81, 82, 83, 84, 85, 86, 87, 88, 89, 90, 91, 92, 93, 94, 95, 96, 97, 98, 99, 100, 101, 102, 103, 104, 105, 106, 111, 112, 113, 114, 115, 116, 117, 118, 119, 120, 121, 122, 123, 124, 125, 126, 127, 128, 129] (by decide +kernel) (by decide +kernel)
set_option maxRecDepth 20000 in
theorem gX4_avenue_X4_item : GoodIn wsX4_avenue (wsV RX4 280 RX4 yX4_item wsX4_item) := goodIn_app (goodIn_of _ (by decide +kernel)) ggX4_avenue_X4_item
set_option maxRecDepth 20000 in
theorem ggX4_avenue_X4_byteAt : GoodIn wsX4_avenue wsX4_byteAt := goodIn_r _ [19, 4, 20, 111, 112, 113, 114, 115, 116, 117, 118, 119, 120, 121, 122, 123, 124, 125, 126, 127, 128, 129] (by decide +kernel) (by decide +kernel)
set_option maxRecDepth 20000 in
theorem gX4_avenue_X4_byteAt : GoodIn wsX4_avenue (wsV RX4 212 RX4 yX4_byteAt wsX4_byteAt) := goodIn_app (goodIn_of _ (by decide +kernel)) ggX4_avenue_X4_byteAt
set_option maxRecDepth 20000 in
theorem ggX4_avenue_X4_must : GoodIn wsX4_avenue wsX4_must := goodIn_r _ [67, 1, 12, 13, 14, 8, 15, 2, 3, 4, 16, 17, 18, 19, 20, 21, 22, 23, 24, 25, 26, 27, 28, 29, 30, 31, 32, 33, 111, 112, 113, 114, 115, 116, 117, 118, 119, 120, 121, 122, 123, 124, 125, 126, 127, 128, 129] (by decide +kernel) (by decide +kernel)
set_option maxRecDepth 20000 in
theorem gX4_avenue_X4_must : GoodIn wsX4_avenue (wsV RX4 235 RX4 yX4_must wsX4_must) := goodIn_app (goodIn_of _ (by decide +kernel)) ggX4_avenue_X4_must
set_option maxRecDepth 20000 in
theorem ggX4_avenue_X4_putsBack : GoodIn wsX4_avenue wsX4_putsBack := goodIn_r _ [110, 11, 10, 111, 112, 113, 114, 115, 116, 117, 118, 119, 120, 121, 122, 123, 124, 125, 126, 127, 128, 129] (by decide +kernel) (by decide +kernel)
set_option maxRecDepth 20000 in
theorem gX4_avenue_X4_putsBack : GoodIn wsX4_avenue (wsV RX4 283 RX4 yX4_putsBack wsX4_putsBack) := goodIn_app (goodIn_of _ (by decide +kernel)) ggX4_avenue_X4_putsBack
theorem dX4_avenue_0 : decode cX4_avenue 0 = .ok (.aload_n 0, 1) := by decide +kernel
theorem dX4_avenue_1 : decode cX4_avenue 1 = .ok (.invokevirtual 277, 3) := by decide +kernel
theorem dX4_avenue_4 : decode cX4_avenue 4 = .ok (.aload_n 0, 1) := by decide +kernel
theorem dX4_avenue_5 : decode cX4_avenue 5 = .ok (.iconst 0, 1) := by decide +kernel
theorem dX4_avenue_6 : decode cX4_avenue 6 = .ok (.putfield 221, 3) := by decide +kernel
theorem dX4_avenue_9 : decode cX4_avenue 9 = .ok (.aload_n 0, 1) := by decide +kernel
theorem dX4_avenue_10 : decode cX4_avenue 10 = .ok (.iconst 0, 1) := by decide +kernel
theorem dX4_avenue_11 : decode cX4_avenue 11 = .ok (.putfield 206, 3) := by decide +kernel
theorem dX4_avenue_14 : decode cX4_avenue 14 = .ok (.aload_n 0, 1) := by decide +kernel
theorem dX4_avenue_15 : decode cX4_avenue 15 = .ok (.invokevirtual 225, 3) := by decide +kernel
theorem dX4_avenue_18 : decode cX4_avenue 18 = .ok (.iconst 1, 1) := by decide +kernel
theorem dX4_avenue_19 : decode cX4_avenue 19 = .ok (.istore_n 1, 1) := by decide +kernel
theorem dX4_avenue_20 : decode cX4_avenue 20 = .ok (.aload_n 0, 1) := by decide +kernel
theorem dX4_avenue_21 : decode cX4_avenue 21 = .ok (.invokevirtual 280, 3) := by decide +kernel
theorem dX4_avenue_24 : decode cX4_avenue 24 = .ok (.aload_n 0, 1) := by decide +kernel
theorem dX4_avenue_25 : decode cX4_avenue 25 = .ok (.getfield 221, 3) := by decide +kernel
theorem dX4_avenue_28 : decode cX4_avenue 28 = .ok (.ifCond .ne 31, 3) := by decide +kernel
theorem dX4_avenue_31 : decode cX4_avenue 31 = .ok (.aload_n 0, 1) := by decide +kernel
theorem dX4_avenue_32 : decode cX4_avenue 32 = .ok (.aload_n 0, 1) := by decide +kernel
theorem dX4_avenue_33 : decode cX4_avenue 33 = .ok (.getfield 209, 3) := by decide +kernel
theorem dX4_avenue_36 : decode cX4_avenue 36 = .ok (.invokevirtual 212, 3) := by decide +kernel
theorem dX4_avenue_39 : decode cX4_avenue 39 = .ok (.bipush 59, 2) := by decide +kernel
theorem dX4_avenue_41 : decode cX4_avenue 41 = .ok (.if_icmp .ne 18, 3) := by decide +kernel
theorem dX4_avenue_44 : decode cX4_avenue 44 = .ok (.aload_n 0, 1) := by decide +kernel
theorem dX4_avenue_45 : decode cX4_avenue 45 = .ok (.iconst 1, 1) := by decide +kernel
theorem dX4_avenue_46 : decode cX4_avenue 46 = .ok (.invokevirtual 235, 3) := by decide +kernel
theorem dX4_avenue_49 : decode cX4_avenue 49 = .ok (.aload_n 0, 1) := by decide +kernel
theorem dX4_avenue_50 : decode cX4_avenue 50 = .ok (.invokevirtual 280, 3) := by decide +kernel
theorem dX4_avenue_53 : decode cX4_avenue 53 = .ok (.iinc 1 1, 3) := by decide +kernel
theorem dX4_avenue_56 : decode cX4_avenue 56 = .ok (.goto (-32), 3) := by decide +kernel
theorem dX4_avenue_59 : decode cX4_avenue 59 = .ok (.aload_n 0, 1) := by decide +kernel
theorem dX4_avenue_60 : decode cX4_avenue 60 = .ok (.aload_n 0, 1) := by decide +kernel
theorem dX4_avenue_61 : decode cX4_avenue 61 = .ok (.getfield 221, 3) := by decide +kernel
theorem dX4_avenue_64 : decode cX4_avenue 64 = .ok (.ifCond .ne 14, 3) := by decide +kernel
theorem dX4_avenue_67 : decode cX4_avenue 67 = .ok (.aload_n 0, 1) := by decide +kernel
theorem dX4_avenue_68 : decode cX4_avenue 68 = .ok (.getfield 209, 3) := by decide +kernel
theorem dX4_avenue_71 : decode cX4_avenue 71 = .ok (.aload_n 0, 1) := by decide +kernel
theorem dX4_avenue_72 : decode cX4_avenue 72 = .ok (.getfield 194, 3) := by decide +kernel
theorem dX4_avenue_75 : decode cX4_avenue 75 = .ok (.if_icmp .ge 7, 3) := by decide +kernel
theorem dX4_avenue_78 : decode cX4_avenue 78 = .ok (.iconst 1, 1) := by decide +kernel
theorem dX4_avenue_79 : decode cX4_avenue 79 = .ok (.goto 4, 3) := by decide +kernel
theorem dX4_avenue_82 : decode cX4_avenue 82 = .ok (.iconst 0, 1) := by decide +kernel
theorem dX4_avenue_83 : decode cX4_avenue 83 = .ok (.putfield 221, 3) := by decide +kernel
theorem dX4_avenue_86 : decode cX4_avenue 86 = .ok (.aload_n 0, 1) := by decide +kernel
theorem dX4_avenue_87 : decode cX4_avenue 87 = .ok (.getfield 221, 3) := by decide +kernel
theorem dX4_avenue_90 : decode cX4_avenue 90 = .ok (.ifCond .eq 7, 3) := by decide +kernel
theorem dX4_avenue_93 : decode cX4_avenue 93 = .ok (.aload_n 0, 1) := by decide +kernel
theorem dX4_avenue_94 : decode cX4_avenue 94 = .ok (.invokevirtual 283, 3) := by decide +kernel
theorem dX4_avenue_97 : decode cX4_avenue 97 = .ok (.aload_n 0, 1) := by decide +kernel
theorem dX4_avenue_98 : decode cX4_avenue 98 = .ok (.iconst 0, 1) := by decide +kernel
theorem dX4_avenue_99 : decode cX4_avenue 99 = .ok (.putfield 194, 3) := by decide +kernel
theorem dX4_avenue_102 : decode cX4_avenue 102 = .ok (.aload_n 0, 1) := by decide +kernel
theorem dX4_avenue_103 : decode cX4_avenue 103 = .ok (.getfield 221, 3) := by decide +kernel
theorem dX4_avenue_106 : decode cX4_avenue 106 = .ok (.ifCond .eq 12, 3) := by decide +kernel
theorem dX4_avenue_109 : decode cX4_avenue 109 = .ok (.iconst (-1), 1) := by decide +kernel
theorem dX4_avenue_110 : decode cX4_avenue 110 = .ok (.aload_n 0, 1) := by decide +kernel
theorem dX4_avenue_111 : decode cX4_avenue 111 = .ok (.getfield 209, 3) := by decide +kernel
theorem dX4_avenue_114 : decode cX4_avenue 114 = .ok (.isub, 1) := by decide +kernel
theorem dX4_avenue_115 : decode cX4_avenue 115 = .ok (.goto 4, 3) := by decide +kernel
theorem dX4_avenue_118 : decode cX4_avenue 118 = .ok (.iload_n 1, 1) := by decide +kernel
theorem dX4_avenue_119 : decode cX4_avenue 119 = .ok (.ireturn, 1) := by decide +kernel
set_option maxRecDepth 20000 in
theorem ggX4_isOne_X4_in : GoodIn wsX4_isOne wsX4_in := goodIn_r _ [5] (by decide +kernel) (by decide +kernel)
set_option maxRecDepth 20000 in
theorem gX4_isOne_X4_in : GoodIn wsX4_isOne (va_wsS RX4 51 yX4_in wsX4_in) := goodIn_app (goodIn_of _ (by decide +kernel)) ggX4_isOne_X4_in
theorem dX4_isOne_0 : decode cX4_isOne 0 = .ok (.iload_n 0, 1) := by decide +kernel
theorem dX4_isOne_1 : decode cX4_isOne 1 = .ok (.i2l, 1) := by decide +kernel
theorem dX4_isOne_2 : decode cX4_isOne 2 = .ok (.lconst 0, 1) := by decide +kernel
theorem dX4_isOne_3 : decode cX4_isOne 3 = .ok (.ldc2_w 286, 3) := by decide +kernel
theorem dX4_isOne_6 : decode cX4_isOne 6 = .ok (.invokestatic 51, 3) := by decide +kernel
theorem dX4_isOne_9 : decode cX4_isOne 9 = .ok (.ireturn, 1) := by decide +kernel
set_option maxRecDepth 20000 in
theorem ggX4_sheet_X4_isOne : GoodIn wsX4_sheet wsX4_isOne := goodIn_r _ [9, 10, 11, 12, 8, 13] (by decide +kernel) (by decide +kernel)
set_option maxRecDepth 20000 in
theorem gX4_sheet_X4_isOne : GoodIn wsX4_sheet (va_wsS RX4 288 yX4_isOne wsX4_isOne) := goodIn_app (goodIn_of _ (by decide +kernel)) ggX4_sheet_X4_isOne
set_option maxRecDepth 20000 in
theorem ggX4_sheet_X4_finds : GoodIn wsX4_sheet wsX4_finds := goodIn_r _ [17, 18, 1, 19, 20, 21, 22, 23, 24, 25, 26, 27, 28, 29, 30, 31, 32, 33, 34, 35, 36, 37] (by decide +kernel) (by decide +kernel)
set_option maxRecDepth 20000 in
theorem gX4_sheet_X4_finds : GoodIn wsX4_sheet (wsV RX4 77 RX4 yX4_finds wsX4_finds) := goodIn_app (goodIn_of _ (by decide +kernel)) ggX4_sheet_X4_finds
theorem dX4_sheet_0 : decode cX4_sheet 0 = .ok (.iload_n 1, 1) := by decide +kernel
theorem dX4_sheet_1 : decode cX4_sheet 1 = .ok (.invokestatic 288, 3) := by decide +kernel
theorem dX4_sheet_4 : decode cX4_sheet 4 = .ok (.ifCond .eq 25, 3) := by decide +kernel
theorem dX4_sheet_7 : decode cX4_sheet 7 = .ok (.iload_n 2, 1) := by decide +kernel
theorem dX4_sheet_8 : decode cX4_sheet 8 = .ok (.ifCond .eq 28, 3) := by decide +kernel
theorem dX4_sheet_11 : decode cX4_sheet 11 = .ok (.iload_n 2, 1) := by decide +kernel
theorem dX4_sheet_12 : decode cX4_sheet 12 = .ok (.bipush 8, 2) := by decide +kernel
theorem dX4_sheet_14 : decode cX4_sheet 14 = .ok (.if_icmp .eq 22, 3) := by decide +kernel
theorem dX4_sheet_17 : decode cX4_sheet 17 = .ok (.iload_n 2, 1) := by decide +kernel
theorem dX4_sheet_18 : decode cX4_sheet 18 = .ok (.bipush 16, 2) := by decide +kernel
theorem dX4_sheet_20 : decode cX4_sheet 20 = .ok (.if_icmp .eq 16, 3) := by decide +kernel
theorem dX4_sheet_23 : decode cX4_sheet 23 = .ok (.iload_n 2, 1) := by decide +kernel
theorem dX4_sheet_24 : decode cX4_sheet 24 = .ok (.bipush 64, 2) := by decide +kernel
theorem dX4_sheet_26 : decode cX4_sheet 26 = .ok (.if_icmp .eq 10, 3) := by decide +kernel
theorem dX4_sheet_29 : decode cX4_sheet 29 = .ok (.aload_n 0, 1) := by decide +kernel
theorem dX4_sheet_30 : decode cX4_sheet 30 = .ok (.ldc 48, 2) := by decide +kernel
theorem dX4_sheet_32 : decode cX4_sheet 32 = .ok (.invokevirtual 77, 3) := by decide +kernel
theorem dX4_sheet_35 : decode cX4_sheet 35 = .ok (.ireturn, 1) := by decide +kernel
theorem dX4_sheet_36 : decode cX4_sheet 36 = .ok (.iload_n 3, 1) := by decide +kernel
theorem dX4_sheet_37 : decode cX4_sheet 37 = .ok (.ifCond .ge 11, 3) := by decide +kernel
theorem dX4_sheet_40 : decode cX4_sheet 40 = .ok (.aload_n 0, 1) := by decide +kernel
theorem dX4_sheet_41 : decode cX4_sheet 41 = .ok (.ldc_w 291, 3) := by decide +kernel
theorem dX4_sheet_44 : decode cX4_sheet 44 = .ok (.invokevirtual 77, 3) := by decide +kernel
theorem dX4_sheet_47 : decode cX4_sheet 47 = .ok (.ireturn, 1) := by decide +kernel
theorem dX4_sheet_48 : decode cX4_sheet 48 = .ok (.iload_n 3, 1) := by decide +kernel
theorem dX4_sheet_49 : decode cX4_sheet 49 = .ok (.bipush 40, 2) := by decide +kernel
theorem dX4_sheet_51 : decode cX4_sheet 51 = .ok (.if_icmp .le 10, 3) := by decide +kernel
theorem dX4_sheet_54 : decode cX4_sheet 54 = .ok (.aload_n 0, 1) := by decide +kernel
theorem dX4_sheet_55 : decode cX4_sheet 55 = .ok (.ldc 48, 2) := by decide +kernel
theorem dX4_sheet_57 : decode cX4_sheet 57 = .ok (.invokevirtual 77, 3) := by decide +kernel
theorem dX4_sheet_60 : decode cX4_sheet 60 = .ok (.ireturn, 1) := by decide +kernel
theorem dX4_sheet_61 : decode cX4_sheet 61 = .ok (.aload_n 0, 1) := by decide +kernel
theorem dX4_sheet_62 : decode cX4_sheet 62 = .ok (.getfield 31, 3) := by decide +kernel
theorem dX4_sheet_65 : decode cX4_sheet 65 = .ok (.iload_n 1, 1) := by decide +kernel
theorem dX4_sheet_66 : decode cX4_sheet 66 = .ok (.iload_n 2, 1) := by decide +kernel
theorem dX4_sheet_67 : decode cX4_sheet 67 = .ok (.iastore, 1) := by decide +kernel
theorem dX4_sheet_68 : decode cX4_sheet 68 = .ok (.aload_n 0, 1) := by decide +kernel
theorem dX4_sheet_69 : decode cX4_sheet 69 = .ok (.getfield 34, 3) := by decide +kernel
theorem dX4_sheet_72 : decode cX4_sheet 72 = .ok (.iload_n 1, 1) := by decide +kernel
theorem dX4_sheet_73 : decode cX4_sheet 73 = .ok (.iload_n 2, 1) := by decide +kernel
theorem dX4_sheet_74 : decode cX4_sheet 74 = .ok (.ifCond .ne 7, 3) := by decide +kernel
theorem dX4_sheet_77 : decode cX4_sheet 77 = .ok (.iconst 0, 1) := by decide +kernel
theorem dX4_sheet_78 : decode cX4_sheet 78 = .ok (.goto 4, 3) := by decide +kernel
theorem dX4_sheet_81 : decode cX4_sheet 81 = .ok (.iload_n 3, 1) := by decide +kernel
theorem dX4_sheet_82 : decode cX4_sheet 82 = .ok (.iastore, 1) := by decide +kernel
theorem dX4_sheet_83 : decode cX4_sheet 83 = .ok (.iconst 0, 1) := by decide +kernel
theorem dX4_sheet_84 : decode cX4_sheet 84 = .ok (.istore 4, 2) := by decide +kernel
theorem dX4_sheet_86 : decode cX4_sheet 86 = .ok (.iload 4, 2) := by decide +kernel
theorem dX4_sheet_88 : decode cX4_sheet 88 = .ok (.bipush 40, 2) := by decide +kernel
theorem dX4_sheet_90 : decode cX4_sheet 90 = .ok (.if_icmp .ge 22, 3) := by decide +kernel
theorem dX4_sheet_93 : decode cX4_sheet 93 = .ok (.aload_n 0, 1) := by decide +kernel
theorem dX4_sheet_94 : decode cX4_sheet 94 = .ok (.getfield 37, 3) := by decide +kernel
theorem dX4_sheet_97 : decode cX4_sheet 97 = .ok (.bipush 40, 2) := by decide +kernel
theorem dX4_sheet_99 : decode cX4_sheet 99 = .ok (.iload_n 1, 1) := by decide +kernel
theorem dX4_sheet_100 : decode cX4_sheet 100 = .ok (.imul, 1) := by decide +kernel
theorem dX4_sheet_101 : decode cX4_sheet 101 = .ok (.iload 4, 2) := by decide +kernel
theorem dX4_sheet_103 : decode cX4_sheet 103 = .ok (.iadd, 1) := by decide +kernel
theorem dX4_sheet_104 : decode cX4_sheet 104 = .ok (.lconst 0, 1) := by decide +kernel
theorem dX4_sheet_105 : decode cX4_sheet 105 = .ok (.lastore, 1) := by decide +kernel
theorem dX4_sheet_106 : decode cX4_sheet 106 = .ok (.iinc 4 1, 3) := by decide +kernel
theorem dX4_sheet_109 : decode cX4_sheet 109 = .ok (.goto (-23), 3) := by decide +kernel
theorem dX4_sheet_112 : decode cX4_sheet 112 = .ok (.aload_n 0, 1) := by decide +kernel
theorem dX4_sheet_113 : decode cX4_sheet 113 = .ok (.getfield 34, 3) := by decide +kernel
theorem dX4_sheet_116 : decode cX4_sheet 116 = .ok (.iload_n 1, 1) := by decide +kernel
theorem dX4_sheet_117 : decode cX4_sheet 117 = .ok (.iaload, 1) := by decide +kernel
theorem dX4_sheet_118 : decode cX4_sheet 118 = .ok (.ireturn, 1) := by decide +kernel
theorem dX4_narrowed_0 : decode cX4_narrowed 0 = .ok (.iload_n 0, 1) := by decide +kernel
theorem dX4_narrowed_1 : decode cX4_narrowed 1 = .ok (.bipush 8, 2) := by decide +kernel
theorem dX4_narrowed_3 : decode cX4_narrowed 3 = .ok (.if_icmp .ne 10, 3) := by decide +kernel
theorem dX4_narrowed_6 : decode cX4_narrowed 6 = .ok (.lload_n 1, 1) := by decide +kernel
theorem dX4_narrowed_7 : decode cX4_narrowed 7 = .ok (.l2i, 1) := by decide +kernel
theorem dX4_narrowed_8 : decode cX4_narrowed 8 = .ok (.i2b, 1) := by decide +kernel
theorem dX4_narrowed_9 : decode cX4_narrowed 9 = .ok (.i2l, 1) := by decide +kernel
theorem dX4_narrowed_10 : decode cX4_narrowed 10 = .ok (.goto 17, 3) := by decide +kernel
theorem dX4_narrowed_13 : decode cX4_narrowed 13 = .ok (.iload_n 0, 1) := by decide +kernel
theorem dX4_narrowed_14 : decode cX4_narrowed 14 = .ok (.bipush 16, 2) := by decide +kernel
theorem dX4_narrowed_16 : decode cX4_narrowed 16 = .ok (.if_icmp .ne 10, 3) := by decide +kernel
theorem dX4_narrowed_19 : decode cX4_narrowed 19 = .ok (.lload_n 1, 1) := by decide +kernel
theorem dX4_narrowed_20 : decode cX4_narrowed 20 = .ok (.l2i, 1) := by decide +kernel
theorem dX4_narrowed_21 : decode cX4_narrowed 21 = .ok (.i2s, 1) := by decide +kernel
theorem dX4_narrowed_22 : decode cX4_narrowed 22 = .ok (.i2l, 1) := by decide +kernel
theorem dX4_narrowed_23 : decode cX4_narrowed 23 = .ok (.goto 4, 3) := by decide +kernel
theorem dX4_narrowed_26 : decode cX4_narrowed 26 = .ok (.lload_n 1, 1) := by decide +kernel
theorem dX4_narrowed_27 : decode cX4_narrowed 27 = .ok (.lreturn, 1) := by decide +kernel
set_option maxRecDepth 20000 in
theorem ggX4_wrongSheet_X4_isOne : GoodIn wsX4_wrongSheet wsX4_isOne := goodIn_r _ [7, 8, 9, 10, 6, 11] (by decide +kernel) (by decide +kernel)
set_option maxRecDepth 20000 in
theorem gX4_wrongSheet_X4_isOne : GoodIn wsX4_wrongSheet (va_wsS RX4 288 yX4_isOne wsX4_isOne) := goodIn_app (goodIn_of _ (by decide +kernel)) ggX4_wrongSheet_X4_isOne
theorem dX4_wrongSheet_0 : decode cX4_wrongSheet 0 = .ok (.iload_n 1, 1) := by decide +kernel
theorem dX4_wrongSheet_1 : decode cX4_wrongSheet 1 = .ok (.invokestatic 288, 3) := by decide +kernel
theorem dX4_wrongSheet_4 : decode cX4_wrongSheet 4 = .ok (.ifCond .ne 8, 3) := by decide +kernel
theorem dX4_wrongSheet_7 : decode cX4_wrongSheet 7 = .ok (.ldc 48, 2) := by decide +kernel
theorem dX4_wrongSheet_9 : decode cX4_wrongSheet 9 = .ok (.goto 19, 3) := by decide +kernel
theorem dX4_wrongSheet_12 : decode cX4_wrongSheet 12 = .ok (.aload_n 0, 1) := by decide +kernel
theorem dX4_wrongSheet_13 : decode cX4_wrongSheet 13 = .ok (.getfield 31, 3) := by decide +kernel
theorem dX4_wrongSheet_16 : decode cX4_wrongSheet 16 = .ok (.iload_n 1, 1) := by decide +kernel
theorem dX4_wrongSheet_17 : decode cX4_wrongSheet 17 = .ok (.iaload, 1) := by decide +kernel
theorem dX4_wrongSheet_18 : decode cX4_wrongSheet 18 = .ok (.ifCond .ne 9, 3) := by decide +kernel
theorem dX4_wrongSheet_21 : decode cX4_wrongSheet 21 = .ok (.ldc_w 292, 3) := by decide +kernel
theorem dX4_wrongSheet_24 : decode cX4_wrongSheet 24 = .ok (.goto 4, 3) := by decide +kernel
theorem dX4_wrongSheet_27 : decode cX4_wrongSheet 27 = .ok (.iconst 0, 1) := by decide +kernel
theorem dX4_wrongSheet_28 : decode cX4_wrongSheet 28 = .ok (.ireturn, 1) := by decide +kernel
set_option maxRecDepth 20000 in
theorem ggX4_write_X4_wrongSheet : GoodIn wsX4_write wsX4_wrongSheet := goodIn_r _ [9, 2, 4, 10, 11, 12, 8, 13, 14, 15, 16, 17, 26, 27, 28, 29, 30, 31, 32, 33, 34, 35, 36, 37, 38, 39, 40, 41, 42, 43, 44] (by decide +kernel) (by decide +kernel)
set_option maxRecDepth 20000 in
theorem gX4_write_X4_wrongSheet : GoodIn wsX4_write (wsV RX4 293 RX4 yX4_wrongSheet wsX4_wrongSheet) := goodIn_app (goodIn_of _ (by decide +kernel)) ggX4_write_X4_wrongSheet
set_option maxRecDepth 20000 in
theorem ggX4_write_X4_finds : GoodIn wsX4_write wsX4_finds := goodIn_r _ [21, 22, 2, 26, 27, 28, 29, 30, 31, 32, 33, 34, 35, 36, 37, 38, 39, 40, 41, 42, 43, 44] (by decide +kernel) (by decide +kernel)
set_option maxRecDepth 20000 in
theorem gX4_write_X4_finds : GoodIn wsX4_write (wsV RX4 77 RX4 yX4_finds wsX4_finds) := goodIn_app (goodIn_of _ (by decide +kernel)) ggX4_write_X4_finds
set_option maxRecDepth 20000 in
theorem ggX4_write_X4_in : GoodIn wsX4_write wsX4_in := goodIn_r _ [17] (by decide +kernel) (by decide +kernel)
set_option maxRecDepth 20000 in
theorem gX4_write_X4_in : GoodIn wsX4_write (va_wsS RX4 51 yX4_in wsX4_in) := goodIn_app (goodIn_of _ (by decide +kernel)) ggX4_write_X4_in
set_option maxRecDepth 20000 in
theorem ggX4_write_X4_narrowed : GoodIn wsX4_write wsX4_narrowed := goodIn_r _ [25] (by decide +kernel) (by decide +kernel)
set_option maxRecDepth 20000 in
theorem gX4_write_X4_narrowed : GoodIn wsX4_write (va_wsS RX4 296 yX4_narrowed wsX4_narrowed) := goodIn_app (goodIn_of _ (by decide +kernel)) ggX4_write_X4_narrowed
theorem dX4_write_0 : decode cX4_write 0 = .ok (.aload_n 0, 1) := by decide +kernel
theorem dX4_write_1 : decode cX4_write 1 = .ok (.iload_n 1, 1) := by decide +kernel
theorem dX4_write_2 : decode cX4_write 2 = .ok (.invokevirtual 293, 3) := by decide +kernel
theorem dX4_write_5 : decode cX4_write 5 = .ok (.istore 5, 2) := by decide +kernel
theorem dX4_write_7 : decode cX4_write 7 = .ok (.iload 5, 2) := by decide +kernel
theorem dX4_write_9 : decode cX4_write 9 = .ok (.ifCond .eq 11, 3) := by decide +kernel
theorem dX4_write_12 : decode cX4_write 12 = .ok (.aload_n 0, 1) := by decide +kernel
theorem dX4_write_13 : decode cX4_write 13 = .ok (.iload 5, 2) := by decide +kernel
theorem dX4_write_15 : decode cX4_write 15 = .ok (.invokevirtual 77, 3) := by decide +kernel
theorem dX4_write_18 : decode cX4_write 18 = .ok (.i2l, 1) := by decide +kernel
theorem dX4_write_19 : decode cX4_write 19 = .ok (.lreturn, 1) := by decide +kernel
theorem dX4_write_20 : decode cX4_write 20 = .ok (.iload_n 2, 1) := by decide +kernel
theorem dX4_write_21 : decode cX4_write 21 = .ok (.i2l, 1) := by decide +kernel
theorem dX4_write_22 : decode cX4_write 22 = .ok (.lconst 0, 1) := by decide +kernel
theorem dX4_write_23 : decode cX4_write 23 = .ok (.aload_n 0, 1) := by decide +kernel
theorem dX4_write_24 : decode cX4_write 24 = .ok (.getfield 34, 3) := by decide +kernel
theorem dX4_write_27 : decode cX4_write 27 = .ok (.iload_n 1, 1) := by decide +kernel
theorem dX4_write_28 : decode cX4_write 28 = .ok (.iaload, 1) := by decide +kernel
theorem dX4_write_29 : decode cX4_write 29 = .ok (.iconst 1, 1) := by decide +kernel
theorem dX4_write_30 : decode cX4_write 30 = .ok (.isub, 1) := by decide +kernel
theorem dX4_write_31 : decode cX4_write 31 = .ok (.i2l, 1) := by decide +kernel
theorem dX4_write_32 : decode cX4_write 32 = .ok (.invokestatic 51, 3) := by decide +kernel
theorem dX4_write_35 : decode cX4_write 35 = .ok (.ifCond .ne 11, 3) := by decide +kernel
theorem dX4_write_38 : decode cX4_write 38 = .ok (.aload_n 0, 1) := by decide +kernel
theorem dX4_write_39 : decode cX4_write 39 = .ok (.ldc 48, 2) := by decide +kernel
theorem dX4_write_41 : decode cX4_write 41 = .ok (.invokevirtual 77, 3) := by decide +kernel
theorem dX4_write_44 : decode cX4_write 44 = .ok (.i2l, 1) := by decide +kernel
theorem dX4_write_45 : decode cX4_write 45 = .ok (.lreturn, 1) := by decide +kernel
theorem dX4_write_46 : decode cX4_write 46 = .ok (.aload_n 0, 1) := by decide +kernel
theorem dX4_write_47 : decode cX4_write 47 = .ok (.getfield 37, 3) := by decide +kernel
theorem dX4_write_50 : decode cX4_write 50 = .ok (.bipush 40, 2) := by decide +kernel
theorem dX4_write_52 : decode cX4_write 52 = .ok (.iload_n 1, 1) := by decide +kernel
theorem dX4_write_53 : decode cX4_write 53 = .ok (.imul, 1) := by decide +kernel
theorem dX4_write_54 : decode cX4_write 54 = .ok (.iload_n 2, 1) := by decide +kernel
theorem dX4_write_55 : decode cX4_write 55 = .ok (.iadd, 1) := by decide +kernel
theorem dX4_write_56 : decode cX4_write 56 = .ok (.laload, 1) := by decide +kernel
theorem dX4_write_57 : decode cX4_write 57 = .ok (.lstore 6, 2) := by decide +kernel
theorem dX4_write_59 : decode cX4_write 59 = .ok (.aload_n 0, 1) := by decide +kernel
theorem dX4_write_60 : decode cX4_write 60 = .ok (.getfield 37, 3) := by decide +kernel
theorem dX4_write_63 : decode cX4_write 63 = .ok (.bipush 40, 2) := by decide +kernel
theorem dX4_write_65 : decode cX4_write 65 = .ok (.iload_n 1, 1) := by decide +kernel
theorem dX4_write_66 : decode cX4_write 66 = .ok (.imul, 1) := by decide +kernel
theorem dX4_write_67 : decode cX4_write 67 = .ok (.iload_n 2, 1) := by decide +kernel
theorem dX4_write_68 : decode cX4_write 68 = .ok (.iadd, 1) := by decide +kernel
theorem dX4_write_69 : decode cX4_write 69 = .ok (.aload_n 0, 1) := by decide +kernel
theorem dX4_write_70 : decode cX4_write 70 = .ok (.getfield 31, 3) := by decide +kernel
theorem dX4_write_73 : decode cX4_write 73 = .ok (.iload_n 1, 1) := by decide +kernel
theorem dX4_write_74 : decode cX4_write 74 = .ok (.iaload, 1) := by decide +kernel
theorem dX4_write_75 : decode cX4_write 75 = .ok (.lload_n 3, 1) := by decide +kernel
theorem dX4_write_76 : decode cX4_write 76 = .ok (.invokestatic 296, 3) := by decide +kernel
theorem dX4_write_79 : decode cX4_write 79 = .ok (.lastore, 1) := by decide +kernel
theorem dX4_write_80 : decode cX4_write 80 = .ok (.lload 6, 2) := by decide +kernel
theorem dX4_write_82 : decode cX4_write 82 = .ok (.lreturn, 1) := by decide +kernel
set_option maxRecDepth 20000 in
theorem ggX4_copy_X4_isOne : GoodIn wsX4_copy wsX4_isOne := goodIn_r _ [11, 12, 13, 14, 10, 15] (by decide +kernel) (by decide +kernel)
set_option maxRecDepth 20000 in
theorem gX4_copy_X4_isOne : GoodIn wsX4_copy (va_wsS RX4 288 yX4_isOne wsX4_isOne) := goodIn_app (goodIn_of _ (by decide +kernel)) ggX4_copy_X4_isOne
set_option maxRecDepth 20000 in
theorem ggX4_copy_X4_finds : GoodIn wsX4_copy wsX4_finds := goodIn_r _ [19, 20, 1, 21, 22, 23, 24, 25, 26, 27, 28, 29, 30, 31, 32, 33, 34, 35, 36, 37, 38, 39] (by decide +kernel) (by decide +kernel)
set_option maxRecDepth 20000 in
theorem gX4_copy_X4_finds : GoodIn wsX4_copy (wsV RX4 77 RX4 yX4_finds wsX4_finds) := goodIn_app (goodIn_of _ (by decide +kernel)) ggX4_copy_X4_finds
theorem dX4_copy_0 : decode cX4_copy 0 = .ok (.iload_n 1, 1) := by decide +kernel
theorem dX4_copy_1 : decode cX4_copy 1 = .ok (.invokestatic 288, 3) := by decide +kernel
theorem dX4_copy_4 : decode cX4_copy 4 = .ok (.ifCond .eq 10, 3) := by decide +kernel
theorem dX4_copy_7 : decode cX4_copy 7 = .ok (.iload_n 3, 1) := by decide +kernel
theorem dX4_copy_8 : decode cX4_copy 8 = .ok (.invokestatic 288, 3) := by decide +kernel
theorem dX4_copy_11 : decode cX4_copy 11 = .ok (.ifCond .ne 10, 3) := by decide +kernel
theorem dX4_copy_14 : decode cX4_copy 14 = .ok (.aload_n 0, 1) := by decide +kernel
theorem dX4_copy_15 : decode cX4_copy 15 = .ok (.ldc 48, 2) := by decide +kernel
theorem dX4_copy_17 : decode cX4_copy 17 = .ok (.invokevirtual 77, 3) := by decide +kernel
theorem dX4_copy_20 : decode cX4_copy 20 = .ok (.ireturn, 1) := by decide +kernel
theorem dX4_copy_21 : decode cX4_copy 21 = .ok (.aload_n 0, 1) := by decide +kernel
theorem dX4_copy_22 : decode cX4_copy 22 = .ok (.getfield 31, 3) := by decide +kernel
theorem dX4_copy_25 : decode cX4_copy 25 = .ok (.iload_n 1, 1) := by decide +kernel
theorem dX4_copy_26 : decode cX4_copy 26 = .ok (.iaload, 1) := by decide +kernel
theorem dX4_copy_27 : decode cX4_copy 27 = .ok (.ifCond .eq 12, 3) := by decide +kernel
theorem dX4_copy_30 : decode cX4_copy 30 = .ok (.aload_n 0, 1) := by decide +kernel
theorem dX4_copy_31 : decode cX4_copy 31 = .ok (.getfield 31, 3) := by decide +kernel
theorem dX4_copy_34 : decode cX4_copy 34 = .ok (.iload_n 3, 1) := by decide +kernel
theorem dX4_copy_35 : decode cX4_copy 35 = .ok (.iaload, 1) := by decide +kernel
theorem dX4_copy_36 : decode cX4_copy 36 = .ok (.ifCond .ne 11, 3) := by decide +kernel
theorem dX4_copy_39 : decode cX4_copy 39 = .ok (.aload_n 0, 1) := by decide +kernel
theorem dX4_copy_40 : decode cX4_copy 40 = .ok (.ldc_w 292, 3) := by decide +kernel
theorem dX4_copy_43 : decode cX4_copy 43 = .ok (.invokevirtual 77, 3) := by decide +kernel
theorem dX4_copy_46 : decode cX4_copy 46 = .ok (.ireturn, 1) := by decide +kernel
theorem dX4_copy_47 : decode cX4_copy 47 = .ok (.aload_n 0, 1) := by decide +kernel
theorem dX4_copy_48 : decode cX4_copy 48 = .ok (.getfield 31, 3) := by decide +kernel
theorem dX4_copy_51 : decode cX4_copy 51 = .ok (.iload_n 1, 1) := by decide +kernel
theorem dX4_copy_52 : decode cX4_copy 52 = .ok (.iaload, 1) := by decide +kernel
theorem dX4_copy_53 : decode cX4_copy 53 = .ok (.aload_n 0, 1) := by decide +kernel
theorem dX4_copy_54 : decode cX4_copy 54 = .ok (.getfield 31, 3) := by decide +kernel
theorem dX4_copy_57 : decode cX4_copy 57 = .ok (.iload_n 3, 1) := by decide +kernel
theorem dX4_copy_58 : decode cX4_copy 58 = .ok (.iaload, 1) := by decide +kernel
theorem dX4_copy_59 : decode cX4_copy 59 = .ok (.if_icmp .eq 10, 3) := by decide +kernel
theorem dX4_copy_62 : decode cX4_copy 62 = .ok (.aload_n 0, 1) := by decide +kernel
theorem dX4_copy_63 : decode cX4_copy 63 = .ok (.ldc 109, 2) := by decide +kernel
theorem dX4_copy_65 : decode cX4_copy 65 = .ok (.invokevirtual 77, 3) := by decide +kernel
theorem dX4_copy_68 : decode cX4_copy 68 = .ok (.ireturn, 1) := by decide +kernel
theorem dX4_copy_69 : decode cX4_copy 69 = .ok (.iload_n 2, 1) := by decide +kernel
theorem dX4_copy_70 : decode cX4_copy 70 = .ok (.ifCond .lt 40, 3) := by decide +kernel
theorem dX4_copy_73 : decode cX4_copy 73 = .ok (.iload 4, 2) := by decide +kernel
theorem dX4_copy_75 : decode cX4_copy 75 = .ok (.ifCond .lt 35, 3) := by decide +kernel
theorem dX4_copy_78 : decode cX4_copy 78 = .ok (.iload 5, 2) := by decide +kernel
theorem dX4_copy_80 : decode cX4_copy 80 = .ok (.ifCond .lt 30, 3) := by decide +kernel
theorem dX4_copy_83 : decode cX4_copy 83 = .ok (.iload 5, 2) := by decide +kernel
theorem dX4_copy_85 : decode cX4_copy 85 = .ok (.aload_n 0, 1) := by decide +kernel
theorem dX4_copy_86 : decode cX4_copy 86 = .ok (.getfield 34, 3) := by decide +kernel
theorem dX4_copy_89 : decode cX4_copy 89 = .ok (.iload_n 1, 1) := by decide +kernel
theorem dX4_copy_90 : decode cX4_copy 90 = .ok (.iaload, 1) := by decide +kernel
theorem dX4_copy_91 : decode cX4_copy 91 = .ok (.iload_n 2, 1) := by decide +kernel
theorem dX4_copy_92 : decode cX4_copy 92 = .ok (.isub, 1) := by decide +kernel
theorem dX4_copy_93 : decode cX4_copy 93 = .ok (.if_icmp .gt 17, 3) := by decide +kernel
theorem dX4_copy_96 : decode cX4_copy 96 = .ok (.iload 5, 2) := by decide +kernel
theorem dX4_copy_98 : decode cX4_copy 98 = .ok (.aload_n 0, 1) := by decide +kernel
theorem dX4_copy_99 : decode cX4_copy 99 = .ok (.getfield 34, 3) := by decide +kernel
theorem dX4_copy_102 : decode cX4_copy 102 = .ok (.iload_n 3, 1) := by decide +kernel
theorem dX4_copy_103 : decode cX4_copy 103 = .ok (.iaload, 1) := by decide +kernel
theorem dX4_copy_104 : decode cX4_copy 104 = .ok (.iload 4, 2) := by decide +kernel
theorem dX4_copy_106 : decode cX4_copy 106 = .ok (.isub, 1) := by decide +kernel
theorem dX4_copy_107 : decode cX4_copy 107 = .ok (.if_icmp .le 10, 3) := by decide +kernel
theorem dX4_copy_110 : decode cX4_copy 110 = .ok (.aload_n 0, 1) := by decide +kernel
theorem dX4_copy_111 : decode cX4_copy 111 = .ok (.ldc 48, 2) := by decide +kernel
theorem dX4_copy_113 : decode cX4_copy 113 = .ok (.invokevirtual 77, 3) := by decide +kernel
theorem dX4_copy_116 : decode cX4_copy 116 = .ok (.ireturn, 1) := by decide +kernel
theorem dX4_copy_117 : decode cX4_copy 117 = .ok (.iconst 0, 1) := by decide +kernel
theorem dX4_copy_118 : decode cX4_copy 118 = .ok (.istore 6, 2) := by decide +kernel
theorem dX4_copy_120 : decode cX4_copy 120 = .ok (.iload 6, 2) := by decide +kernel
theorem dX4_copy_122 : decode cX4_copy 122 = .ok (.iload 5, 2) := by decide +kernel
theorem dX4_copy_124 : decode cX4_copy 124 = .ok (.if_icmp .ge 30, 3) := by decide +kernel
theorem dX4_copy_127 : decode cX4_copy 127 = .ok (.aload_n 0, 1) := by decide +kernel
theorem dX4_copy_128 : decode cX4_copy 128 = .ok (.getfield 41, 3) := by decide +kernel
theorem dX4_copy_131 : decode cX4_copy 131 = .ok (.iload 6, 2) := by decide +kernel
theorem dX4_copy_133 : decode cX4_copy 133 = .ok (.aload_n 0, 1) := by decide +kernel
theorem dX4_copy_134 : decode cX4_copy 134 = .ok (.getfield 37, 3) := by decide +kernel
theorem dX4_copy_137 : decode cX4_copy 137 = .ok (.bipush 40, 2) := by decide +kernel
theorem dX4_copy_139 : decode cX4_copy 139 = .ok (.iload_n 1, 1) := by decide +kernel
theorem dX4_copy_140 : decode cX4_copy 140 = .ok (.imul, 1) := by decide +kernel
theorem dX4_copy_141 : decode cX4_copy 141 = .ok (.iload_n 2, 1) := by decide +kernel
theorem dX4_copy_142 : decode cX4_copy 142 = .ok (.iadd, 1) := by decide +kernel
theorem dX4_copy_143 : decode cX4_copy 143 = .ok (.iload 6, 2) := by decide +kernel
theorem dX4_copy_145 : decode cX4_copy 145 = .ok (.iadd, 1) := by decide +kernel
theorem dX4_copy_146 : decode cX4_copy 146 = .ok (.laload, 1) := by decide +kernel
theorem dX4_copy_147 : decode cX4_copy 147 = .ok (.lastore, 1) := by decide +kernel
theorem dX4_copy_148 : decode cX4_copy 148 = .ok (.iinc 6 1, 3) := by decide +kernel
theorem dX4_copy_151 : decode cX4_copy 151 = .ok (.goto (-31), 3) := by decide +kernel
theorem dX4_copy_154 : decode cX4_copy 154 = .ok (.iconst 0, 1) := by decide +kernel
theorem dX4_copy_155 : decode cX4_copy 155 = .ok (.istore 6, 2) := by decide +kernel
theorem dX4_copy_157 : decode cX4_copy 157 = .ok (.iload 6, 2) := by decide +kernel
theorem dX4_copy_159 : decode cX4_copy 159 = .ok (.iload 5, 2) := by decide +kernel
theorem dX4_copy_161 : decode cX4_copy 161 = .ok (.if_icmp .ge 31, 3) := by decide +kernel
theorem dX4_copy_164 : decode cX4_copy 164 = .ok (.aload_n 0, 1) := by decide +kernel
theorem dX4_copy_165 : decode cX4_copy 165 = .ok (.getfield 37, 3) := by decide +kernel
theorem dX4_copy_168 : decode cX4_copy 168 = .ok (.bipush 40, 2) := by decide +kernel
theorem dX4_copy_170 : decode cX4_copy 170 = .ok (.iload_n 3, 1) := by decide +kernel
theorem dX4_copy_171 : decode cX4_copy 171 = .ok (.imul, 1) := by decide +kernel
theorem dX4_copy_172 : decode cX4_copy 172 = .ok (.iload 4, 2) := by decide +kernel
theorem dX4_copy_174 : decode cX4_copy 174 = .ok (.iadd, 1) := by decide +kernel
theorem dX4_copy_175 : decode cX4_copy 175 = .ok (.iload 6, 2) := by decide +kernel
theorem dX4_copy_177 : decode cX4_copy 177 = .ok (.iadd, 1) := by decide +kernel
theorem dX4_copy_178 : decode cX4_copy 178 = .ok (.aload_n 0, 1) := by decide +kernel
theorem dX4_copy_179 : decode cX4_copy 179 = .ok (.getfield 41, 3) := by decide +kernel
theorem dX4_copy_182 : decode cX4_copy 182 = .ok (.iload 6, 2) := by decide +kernel
theorem dX4_copy_184 : decode cX4_copy 184 = .ok (.laload, 1) := by decide +kernel
theorem dX4_copy_185 : decode cX4_copy 185 = .ok (.lastore, 1) := by decide +kernel
theorem dX4_copy_186 : decode cX4_copy 186 = .ok (.iinc 6 1, 3) := by decide +kernel
theorem dX4_copy_189 : decode cX4_copy 189 = .ok (.goto (-32), 3) := by decide +kernel
theorem dX4_copy_192 : decode cX4_copy 192 = .ok (.iload 5, 2) := by decide +kernel
theorem dX4_copy_194 : decode cX4_copy 194 = .ok (.ireturn, 1) := by decide +kernel
set_option maxRecDepth 20000 in
theorem ggX4_lays_X4_wrongSheet : GoodIn wsX4_lays wsX4_wrongSheet := goodIn_r _ [9, 10, 11, 12, 13, 14, 8, 15, 16, 17, 18, 19, 32, 33, 34, 35, 36, 37, 38, 39, 40, 41, 42, 43, 44, 45, 46, 47, 48, 49, 50] (by decide +kernel) (by decide +kernel)
set_option maxRecDepth 20000 in
theorem gX4_lays_X4_wrongSheet : GoodIn wsX4_lays (wsV RX4 293 RX4 yX4_wrongSheet wsX4_wrongSheet) := goodIn_app (goodIn_of _ (by decide +kernel)) ggX4_lays_X4_wrongSheet
set_option maxRecDepth 20000 in
theorem ggX4_lays_X4_finds : GoodIn wsX4_lays wsX4_finds := goodIn_r _ [23, 24, 10, 32, 33, 34, 35, 36, 37, 38, 39, 40, 41, 42, 43, 44, 45, 46, 47, 48, 49, 50] (by decide +kernel) (by decide +kernel)
set_option maxRecDepth 20000 in
theorem gX4_lays_X4_finds : GoodIn wsX4_lays (wsV RX4 77 RX4 yX4_finds wsX4_finds) := goodIn_app (goodIn_of _ (by decide +kernel)) ggX4_lays_X4_finds
set_option maxRecDepth 20000 in
theorem ggX4_lays_X4_in : GoodIn wsX4_lays wsX4_in := goodIn_r _ [19] (by decide +kernel) (by decide +kernel)
set_option maxRecDepth 20000 in
theorem gX4_lays_X4_in : GoodIn wsX4_lays (va_wsS RX4 51 yX4_in wsX4_in) := goodIn_app (goodIn_of _ (by decide +kernel)) ggX4_lays_X4_in
set_option maxRecDepth 20000 in
theorem ggX4_lays_X4_spotOf : GoodIn wsX4_lays wsX4_spotOf := goodIn_r _ [27] (by decide +kernel) (by decide +kernel)
set_option maxRecDepth 20000 in
theorem gX4_lays_X4_spotOf : GoodIn wsX4_lays (va_wsS RX4 59 yX4_spotOf wsX4_spotOf) := goodIn_app (goodIn_of _ (by decide +kernel)) ggX4_lays_X4_spotOf
set_option maxRecDepth 20000 in
theorem ggX4_lays_X4_its : GoodIn wsX4_lays wsX4_its := goodIn_r _ [31, 4, 25, 26, 8, 27, 32, 33, 34, 35, 36, 37, 38, 39, 40, 41, 42, 43, 44, 45, 46, 47, 48, 49, 50] (by decide +kernel) (by decide +kernel)
set_option maxRecDepth 20000 in
theorem gX4_lays_X4_its : GoodIn wsX4_lays (wsV RX4 63 RX4 yX4_its wsX4_its) := goodIn_app (goodIn_of _ (by decide +kernel)) ggX4_lays_X4_its
theorem dX4_lays_0 : decode cX4_lays 0 = .ok (.aload_n 0, 1) := by decide +kernel
theorem dX4_lays_1 : decode cX4_lays 1 = .ok (.iload_n 1, 1) := by decide +kernel
theorem dX4_lays_2 : decode cX4_lays 2 = .ok (.invokevirtual 293, 3) := by decide +kernel
theorem dX4_lays_5 : decode cX4_lays 5 = .ok (.istore_n 2, 1) := by decide +kernel
theorem dX4_lays_6 : decode cX4_lays 6 = .ok (.iload_n 2, 1) := by decide +kernel
theorem dX4_lays_7 : decode cX4_lays 7 = .ok (.ifCond .eq 9, 3) := by decide +kernel
theorem dX4_lays_10 : decode cX4_lays 10 = .ok (.aload_n 0, 1) := by decide +kernel
theorem dX4_lays_11 : decode cX4_lays 11 = .ok (.iload_n 2, 1) := by decide +kernel
theorem dX4_lays_12 : decode cX4_lays 12 = .ok (.invokevirtual 77, 3) := by decide +kernel
theorem dX4_lays_15 : decode cX4_lays 15 = .ok (.ireturn, 1) := by decide +kernel
theorem dX4_lays_16 : decode cX4_lays 16 = .ok (.iconst 0, 1) := by decide +kernel
theorem dX4_lays_17 : decode cX4_lays 17 = .ok (.istore_n 3, 1) := by decide +kernel
theorem dX4_lays_18 : decode cX4_lays 18 = .ok (.iconst 0, 1) := by decide +kernel
theorem dX4_lays_19 : decode cX4_lays 19 = .ok (.istore 4, 2) := by decide +kernel
theorem dX4_lays_21 : decode cX4_lays 21 = .ok (.iload 4, 2) := by decide +kernel
theorem dX4_lays_23 : decode cX4_lays 23 = .ok (.aload_n 0, 1) := by decide +kernel
theorem dX4_lays_24 : decode cX4_lays 24 = .ok (.getfield 34, 3) := by decide +kernel
theorem dX4_lays_27 : decode cX4_lays 27 = .ok (.iload_n 1, 1) := by decide +kernel
theorem dX4_lays_28 : decode cX4_lays 28 = .ok (.iaload, 1) := by decide +kernel
theorem dX4_lays_29 : decode cX4_lays 29 = .ok (.if_icmp .ge 89, 3) := by decide +kernel
theorem dX4_lays_32 : decode cX4_lays 32 = .ok (.iload 4, 2) := by decide +kernel
theorem dX4_lays_34 : decode cX4_lays 34 = .ok (.bipush 12, 2) := by decide +kernel
theorem dX4_lays_36 : decode cX4_lays 36 = .ok (.if_icmp .ge 82, 3) := by decide +kernel
theorem dX4_lays_39 : decode cX4_lays 39 = .ok (.aload_n 0, 1) := by decide +kernel
theorem dX4_lays_40 : decode cX4_lays 40 = .ok (.getfield 37, 3) := by decide +kernel
theorem dX4_lays_43 : decode cX4_lays 43 = .ok (.bipush 40, 2) := by decide +kernel
theorem dX4_lays_45 : decode cX4_lays 45 = .ok (.iload_n 1, 1) := by decide +kernel
theorem dX4_lays_46 : decode cX4_lays 46 = .ok (.imul, 1) := by decide +kernel
theorem dX4_lays_47 : decode cX4_lays 47 = .ok (.iload 4, 2) := by decide +kernel
theorem dX4_lays_49 : decode cX4_lays 49 = .ok (.iadd, 1) := by decide +kernel
theorem dX4_lays_50 : decode cX4_lays 50 = .ok (.laload, 1) := by decide +kernel
theorem dX4_lays_51 : decode cX4_lays 51 = .ok (.lconst 0, 1) := by decide +kernel
theorem dX4_lays_52 : decode cX4_lays 52 = .ok (.ldc2_w 104, 3) := by decide +kernel
theorem dX4_lays_55 : decode cX4_lays 55 = .ok (.invokestatic 51, 3) := by decide +kernel
theorem dX4_lays_58 : decode cX4_lays 58 = .ok (.istore 5, 2) := by decide +kernel
theorem dX4_lays_60 : decode cX4_lays 60 = .ok (.aload_n 0, 1) := by decide +kernel
theorem dX4_lays_61 : decode cX4_lays 61 = .ok (.getfield 7, 3) := by decide +kernel
theorem dX4_lays_64 : decode cX4_lays 64 = .ok (.iload 4, 2) := by decide +kernel
theorem dX4_lays_66 : decode cX4_lays 66 = .ok (.iconst 1, 1) := by decide +kernel
theorem dX4_lays_67 : decode cX4_lays 67 = .ok (.invokestatic 59, 3) := by decide +kernel
theorem dX4_lays_70 : decode cX4_lays 70 = .ok (.iload 5, 2) := by decide +kernel
theorem dX4_lays_72 : decode cX4_lays 72 = .ok (.ifCond .eq 19, 3) := by decide +kernel
theorem dX4_lays_75 : decode cX4_lays 75 = .ok (.aload_n 0, 1) := by decide +kernel
theorem dX4_lays_76 : decode cX4_lays 76 = .ok (.getfield 37, 3) := by decide +kernel
theorem dX4_lays_79 : decode cX4_lays 79 = .ok (.bipush 40, 2) := by decide +kernel
theorem dX4_lays_81 : decode cX4_lays 81 = .ok (.iload_n 1, 1) := by decide +kernel
theorem dX4_lays_82 : decode cX4_lays 82 = .ok (.imul, 1) := by decide +kernel
theorem dX4_lays_83 : decode cX4_lays 83 = .ok (.iload 4, 2) := by decide +kernel
theorem dX4_lays_85 : decode cX4_lays 85 = .ok (.iadd, 1) := by decide +kernel
theorem dX4_lays_86 : decode cX4_lays 86 = .ok (.laload, 1) := by decide +kernel
theorem dX4_lays_87 : decode cX4_lays 87 = .ok (.l2i, 1) := by decide +kernel
theorem dX4_lays_88 : decode cX4_lays 88 = .ok (.goto 10, 3) := by decide +kernel
theorem dX4_lays_91 : decode cX4_lays 91 = .ok (.aload_n 0, 1) := by decide +kernel
theorem dX4_lays_92 : decode cX4_lays 92 = .ok (.iload 4, 2) := by decide +kernel
theorem dX4_lays_94 : decode cX4_lays 94 = .ok (.iconst 1, 1) := by decide +kernel
theorem dX4_lays_95 : decode cX4_lays 95 = .ok (.invokevirtual 63, 3) := by decide +kernel
theorem dX4_lays_98 : decode cX4_lays 98 = .ok (.iastore, 1) := by decide +kernel
theorem dX4_lays_99 : decode cX4_lays 99 = .ok (.iload_n 3, 1) := by decide +kernel
theorem dX4_lays_100 : decode cX4_lays 100 = .ok (.iload 5, 2) := by decide +kernel
theorem dX4_lays_102 : decode cX4_lays 102 = .ok (.ifCond .eq 7, 3) := by decide +kernel
theorem dX4_lays_105 : decode cX4_lays 105 = .ok (.iconst 1, 1) := by decide +kernel
theorem dX4_lays_106 : decode cX4_lays 106 = .ok (.goto 4, 3) := by decide +kernel
theorem dX4_lays_109 : decode cX4_lays 109 = .ok (.iconst 0, 1) := by decide +kernel
theorem dX4_lays_110 : decode cX4_lays 110 = .ok (.iadd, 1) := by decide +kernel
theorem dX4_lays_111 : decode cX4_lays 111 = .ok (.istore_n 3, 1) := by decide +kernel
theorem dX4_lays_112 : decode cX4_lays 112 = .ok (.iinc 4 1, 3) := by decide +kernel
theorem dX4_lays_115 : decode cX4_lays 115 = .ok (.goto (-94), 3) := by decide +kernel
theorem dX4_lays_118 : decode cX4_lays 118 = .ok (.iload_n 3, 1) := by decide +kernel
theorem dX4_lays_119 : decode cX4_lays 119 = .ok (.ireturn, 1) := by decide +kernel
set_option maxRecDepth 20000 in
theorem ggX4_book_X4_wrongSheet : GoodIn wsX4_book wsX4_wrongSheet := goodIn_r _ [9, 1, 4, 10, 11, 12, 8, 13, 14, 15, 16, 17, 92, 93, 94, 95, 96, 97, 98, 99, 100, 101, 102, 103, 104, 105, 106, 107, 108, 109, 110] (by decide +kernel) (by decide +kernel)
set_option maxRecDepth 20000 in
theorem gX4_book_X4_wrongSheet : GoodIn wsX4_book (wsV RX4 293 RX4 yX4_wrongSheet wsX4_wrongSheet) := goodIn_app (goodIn_of _ (by decide +kernel)) ggX4_book_X4_wrongSheet
set_option maxRecDepth 20000 in
theorem ggX4_book_X4_finds : GoodIn wsX4_book wsX4_finds := goodIn_r _ [21, 22, 1, 92, 93, 94, 95, 96, 97, 98, 99, 100, 101, 102, 103, 104, 105, 106, 107, 108, 109, 110] (by decide +kernel) (by decide +kernel)
set_option maxRecDepth 20000 in
theorem gX4_book_X4_finds : GoodIn wsX4_book (wsV RX4 77 RX4 yX4_finds wsX4_finds) := goodIn_app (goodIn_of _ (by decide +kernel)) ggX4_book_X4_finds
set_option maxRecDepth 20000 in
theorem ggX4_book_X4_isTree : GoodIn wsX4_book wsX4_isTree := goodIn_r _ [25, 26, 15, 16, 8, 17] (by decide +kernel) (by decide +kernel)
set_option maxRecDepth 20000 in
theorem gX4_book_X4_isTree : GoodIn wsX4_book (va_wsS RX4 73 yX4_isTree wsX4_isTree) := goodIn_app (goodIn_of _ (by decide +kernel)) ggX4_book_X4_isTree
set_option maxRecDepth 20000 in
theorem ggX4_book_X4_laysAside : GoodIn wsX4_book wsX4_laysAside := goodIn_r _ [30, 31, 32, 92, 93, 94, 95, 96, 97, 98, 99, 100, 101, 102, 103, 104, 105, 106, 107, 108, 109, 110] (by decide +kernel) (by decide +kernel)
set_option maxRecDepth 20000 in
theorem gX4_book_X4_laysAside : GoodIn wsX4_book (wsV RX4 161 RX4 yX4_laysAside wsX4_laysAside) := goodIn_app (goodIn_of _ (by decide +kernel)) ggX4_book_X4_laysAside
set_option maxRecDepth 20000 in
theorem ggX4_book_X4_knownBy : GoodIn wsX4_book wsX4_knownBy := goodIn_r _ [36, 37, 38, 39, 8, 40, 41, 42, 43, 44, 45, 46, 47, 48, 32, 49, 50, 51, 92, 93, 94, 95, 96, 97, 98, 99, 100, 101, 102, 103, 104, 105, 106, 107, 108, 109, 110] (by decide +kernel) (by decide +kernel)
set_option maxRecDepth 20000 in
theorem gX4_book_X4_knownBy : GoodIn wsX4_book (wsV RX4 91 RX4 yX4_knownBy wsX4_knownBy) := goodIn_app (goodIn_of _ (by decide +kernel)) ggX4_book_X4_knownBy
set_option maxRecDepth 20000 in
theorem ggX4_book_X4_narrowed : GoodIn wsX4_book wsX4_narrowed := goodIn_r _ [54] (by decide +kernel) (by decide +kernel)
set_option maxRecDepth 20000 in
theorem gX4_book_X4_narrowed : GoodIn wsX4_book (va_wsS RX4 296 yX4_narrowed wsX4_narrowed) := goodIn_app (goodIn_of _ (by decide +kernel)) ggX4_book_X4_narrowed
set_option maxRecDepth 20000 in
theorem ggX4_book_X4_year : GoodIn wsX4_book wsX4_year := goodIn_r _ [58, 32, 59, 49, 50, 8, 51, 45, 46, 47, 48, 60, 61, 62, 63, 64, 65, 66, 67, 68, 69, 70, 71, 72, 73, 74, 75, 37, 38, 39, 40, 41, 42, 43, 44, 76, 77, 78, 79, 80, 81, 82, 83, 84, 85, 86, 87, 92, 93, 94, 95, 96, 97, 98, 99, 100, 101, 102, 103, 104, 105, 106, 107, 108, 109, 110] (by decide +kernel) (by decide +kernel)
set_option maxRecDepth 20000 in
theorem gX4_book_X4_year : GoodIn wsX4_book (wsV RX4 131 RX4 yX4_year wsX4_year) := goodIn_app (goodIn_of _ (by decide +kernel)) ggX4_book_X4_year
set_option maxRecDepth 20000 in
theorem ggX4_book_X4_takesBack : GoodIn wsX4_book wsX4_takesBack := goodIn_r _ [91, 32, 31, 92, 93, 94, 95, 96, 97, 98, 99, 100, 101, 102, 103, 104, 105, 106, 107, 108, 109, 110] (by decide +kernel) (by decide +kernel)
set_option maxRecDepth 20000 in
theorem gX4_book_X4_takesBack : GoodIn wsX4_book (wsV RX4 164 RX4 yX4_takesBack wsX4_takesBack) := goodIn_app (goodIn_of _ (by decide +kernel)) ggX4_book_X4_takesBack
theorem dX4_book_0 : decode cX4_book 0 = .ok (.aload_n 0, 1) := by decide +kernel
theorem dX4_book_1 : decode cX4_book 1 = .ok (.iload_n 1, 1) := by decide +kernel
theorem dX4_book_2 : decode cX4_book 2 = .ok (.invokevirtual 293, 3) := by decide +kernel
theorem dX4_book_5 : decode cX4_book 5 = .ok (.istore_n 3, 1) := by decide +kernel
theorem dX4_book_6 : decode cX4_book 6 = .ok (.iload_n 3, 1) := by decide +kernel
theorem dX4_book_7 : decode cX4_book 7 = .ok (.ifCond .eq 9, 3) := by decide +kernel
theorem dX4_book_10 : decode cX4_book 10 = .ok (.aload_n 0, 1) := by decide +kernel
theorem dX4_book_11 : decode cX4_book 11 = .ok (.iload_n 3, 1) := by decide +kernel
theorem dX4_book_12 : decode cX4_book 12 = .ok (.invokevirtual 77, 3) := by decide +kernel
theorem dX4_book_15 : decode cX4_book 15 = .ok (.ireturn, 1) := by decide +kernel
theorem dX4_book_16 : decode cX4_book 16 = .ok (.iload_n 2, 1) := by decide +kernel
theorem dX4_book_17 : decode cX4_book 17 = .ok (.invokestatic 73, 3) := by decide +kernel
theorem dX4_book_20 : decode cX4_book 20 = .ok (.ifCond .ne 10, 3) := by decide +kernel
theorem dX4_book_23 : decode cX4_book 23 = .ok (.aload_n 0, 1) := by decide +kernel
theorem dX4_book_24 : decode cX4_book 24 = .ok (.ldc 48, 2) := by decide +kernel
theorem dX4_book_26 : decode cX4_book 26 = .ok (.invokevirtual 77, 3) := by decide +kernel
theorem dX4_book_29 : decode cX4_book 29 = .ok (.ireturn, 1) := by decide +kernel
theorem dX4_book_30 : decode cX4_book 30 = .ok (.aload_n 0, 1) := by decide +kernel
theorem dX4_book_31 : decode cX4_book 31 = .ok (.invokevirtual 161, 3) := by decide +kernel
theorem dX4_book_34 : decode cX4_book 34 = .ok (.iconst 0, 1) := by decide +kernel
theorem dX4_book_35 : decode cX4_book 35 = .ok (.istore 4, 2) := by decide +kernel
theorem dX4_book_37 : decode cX4_book 37 = .ok (.iload 4, 2) := by decide +kernel
theorem dX4_book_39 : decode cX4_book 39 = .ok (.aload_n 0, 1) := by decide +kernel
theorem dX4_book_40 : decode cX4_book 40 = .ok (.getfield 34, 3) := by decide +kernel
theorem dX4_book_43 : decode cX4_book 43 = .ok (.iload_n 1, 1) := by decide +kernel
theorem dX4_book_44 : decode cX4_book 44 = .ok (.iaload, 1) := by decide +kernel
theorem dX4_book_45 : decode cX4_book 45 = .ok (.if_icmp .ge 40, 3) := by decide +kernel
theorem dX4_book_48 : decode cX4_book 48 = .ok (.aload_n 0, 1) := by decide +kernel
theorem dX4_book_49 : decode cX4_book 49 = .ok (.getfield 37, 3) := by decide +kernel
theorem dX4_book_52 : decode cX4_book 52 = .ok (.bipush 40, 2) := by decide +kernel
theorem dX4_book_54 : decode cX4_book 54 = .ok (.iload_n 1, 1) := by decide +kernel
theorem dX4_book_55 : decode cX4_book 55 = .ok (.imul, 1) := by decide +kernel
theorem dX4_book_56 : decode cX4_book 56 = .ok (.iload 4, 2) := by decide +kernel
theorem dX4_book_58 : decode cX4_book 58 = .ok (.iadd, 1) := by decide +kernel
theorem dX4_book_59 : decode cX4_book 59 = .ok (.aload_n 0, 1) := by decide +kernel
theorem dX4_book_60 : decode cX4_book 60 = .ok (.getfield 31, 3) := by decide +kernel
theorem dX4_book_63 : decode cX4_book 63 = .ok (.iload_n 1, 1) := by decide +kernel
theorem dX4_book_64 : decode cX4_book 64 = .ok (.iaload, 1) := by decide +kernel
theorem dX4_book_65 : decode cX4_book 65 = .ok (.aload_n 0, 1) := by decide +kernel
theorem dX4_book_66 : decode cX4_book 66 = .ok (.iload_n 2, 1) := by decide +kernel
theorem dX4_book_67 : decode cX4_book 67 = .ok (.invokevirtual 91, 3) := by decide +kernel
theorem dX4_book_70 : decode cX4_book 70 = .ok (.i2l, 1) := by decide +kernel
theorem dX4_book_71 : decode cX4_book 71 = .ok (.invokestatic 296, 3) := by decide +kernel
theorem dX4_book_74 : decode cX4_book 74 = .ok (.lastore, 1) := by decide +kernel
theorem dX4_book_75 : decode cX4_book 75 = .ok (.aload_n 0, 1) := by decide +kernel
theorem dX4_book_76 : decode cX4_book 76 = .ok (.invokevirtual 131, 3) := by decide +kernel
theorem dX4_book_79 : decode cX4_book 79 = .ok (.iinc 4 1, 3) := by decide +kernel
theorem dX4_book_82 : decode cX4_book 82 = .ok (.goto (-45), 3) := by decide +kernel
theorem dX4_book_85 : decode cX4_book 85 = .ok (.aload_n 0, 1) := by decide +kernel
theorem dX4_book_86 : decode cX4_book 86 = .ok (.aload_n 0, 1) := by decide +kernel
theorem dX4_book_87 : decode cX4_book 87 = .ok (.getfield 34, 3) := by decide +kernel
theorem dX4_book_90 : decode cX4_book 90 = .ok (.iload_n 1, 1) := by decide +kernel
theorem dX4_book_91 : decode cX4_book 91 = .ok (.iaload, 1) := by decide +kernel
theorem dX4_book_92 : decode cX4_book 92 = .ok (.invokevirtual 164, 3) := by decide +kernel
theorem dX4_book_95 : decode cX4_book 95 = .ok (.ireturn, 1) := by decide +kernel
set_option maxRecDepth 20000 in
theorem ggX4_isBook_X4_knownBy : GoodIn wsX4_isBook wsX4_knownBy := goodIn_r _ [7, 8, 9, 10, 6, 11, 12, 13, 14, 15, 16, 17, 18, 19, 20, 21, 22, 23, 57, 58, 59, 60, 61, 62, 63, 64, 65, 66, 67, 68, 69, 70, 71, 72, 73, 74, 75] (by decide +kernel) (by decide +kernel)
set_option maxRecDepth 20000 in
theorem gX4_isBook_X4_knownBy : GoodIn wsX4_isBook (wsV RX4 91 RX4 yX4_knownBy wsX4_knownBy) := goodIn_app (goodIn_of _ (by decide +kernel)) ggX4_isBook_X4_knownBy
set_option maxRecDepth 20000 in
theorem ggX4_isBook_X4_year : GoodIn wsX4_isBook wsX4_year := goodIn_r _ [27, 20, 28, 21, 22, 6, 23, 16, 17, 18, 19, 29, 30, 31, 32, 33, 34, 35, 36, 37, 38, 39, 40, 41, 42, 43, 44, 8, 9, 10, 11, 12, 13, 14, 15, 45, 46, 47, 48, 49, 50, 51, 52, 53, 54, 55, 56, 57, 58, 59, 60, 61, 62, 63, 64, 65, 66, 67, 68, 69, 70, 71, 72, 73, 74, 75] (by decide +kernel) (by decide +kernel)
set_option maxRecDepth 20000 in
theorem gX4_isBook_X4_year : GoodIn wsX4_isBook (wsV RX4 131 RX4 yX4_year wsX4_year) := goodIn_app (goodIn_of _ (by decide +kernel)) ggX4_isBook_X4_year
theorem dX4_isBook_0 : decode cX4_isBook 0 = .ok (.iconst 0, 1) := by decide +kernel
theorem dX4_isBook_1 : decode cX4_isBook 1 = .ok (.istore_n 3, 1) := by decide +kernel
theorem dX4_isBook_2 : decode cX4_isBook 2 = .ok (.iload_n 3, 1) := by decide +kernel
theorem dX4_isBook_3 : decode cX4_isBook 3 = .ok (.aload_n 0, 1) := by decide +kernel
theorem dX4_isBook_4 : decode cX4_isBook 4 = .ok (.getfield 34, 3) := by decide +kernel
theorem dX4_isBook_7 : decode cX4_isBook 7 = .ok (.iload_n 1, 1) := by decide +kernel
theorem dX4_isBook_8 : decode cX4_isBook 8 = .ok (.iaload, 1) := by decide +kernel
theorem dX4_isBook_9 : decode cX4_isBook 9 = .ok (.if_icmp .ge 36, 3) := by decide +kernel
theorem dX4_isBook_12 : decode cX4_isBook 12 = .ok (.aload_n 0, 1) := by decide +kernel
theorem dX4_isBook_13 : decode cX4_isBook 13 = .ok (.getfield 37, 3) := by decide +kernel
theorem dX4_isBook_16 : decode cX4_isBook 16 = .ok (.bipush 40, 2) := by decide +kernel
theorem dX4_isBook_18 : decode cX4_isBook 18 = .ok (.iload_n 1, 1) := by decide +kernel
theorem dX4_isBook_19 : decode cX4_isBook 19 = .ok (.imul, 1) := by decide +kernel
theorem dX4_isBook_20 : decode cX4_isBook 20 = .ok (.iload_n 3, 1) := by decide +kernel
theorem dX4_isBook_21 : decode cX4_isBook 21 = .ok (.iadd, 1) := by decide +kernel
theorem dX4_isBook_22 : decode cX4_isBook 22 = .ok (.laload, 1) := by decide +kernel
theorem dX4_isBook_23 : decode cX4_isBook 23 = .ok (.aload_n 0, 1) := by decide +kernel
theorem dX4_isBook_24 : decode cX4_isBook 24 = .ok (.iload_n 2, 1) := by decide +kernel
theorem dX4_isBook_25 : decode cX4_isBook 25 = .ok (.invokevirtual 91, 3) := by decide +kernel
theorem dX4_isBook_28 : decode cX4_isBook 28 = .ok (.i2l, 1) := by decide +kernel
theorem dX4_isBook_29 : decode cX4_isBook 29 = .ok (.lcmp, 1) := by decide +kernel
theorem dX4_isBook_30 : decode cX4_isBook 30 = .ok (.ifCond .eq 5, 3) := by decide +kernel
theorem dX4_isBook_33 : decode cX4_isBook 33 = .ok (.iconst 0, 1) := by decide +kernel
theorem dX4_isBook_34 : decode cX4_isBook 34 = .ok (.ireturn, 1) := by decide +kernel
theorem dX4_isBook_35 : decode cX4_isBook 35 = .ok (.aload_n 0, 1) := by decide +kernel
theorem dX4_isBook_36 : decode cX4_isBook 36 = .ok (.invokevirtual 131, 3) := by decide +kernel
theorem dX4_isBook_39 : decode cX4_isBook 39 = .ok (.iinc 3 1, 3) := by decide +kernel
theorem dX4_isBook_42 : decode cX4_isBook 42 = .ok (.goto (-40), 3) := by decide +kernel
theorem dX4_isBook_45 : decode cX4_isBook 45 = .ok (.iconst 1, 1) := by decide +kernel
theorem dX4_isBook_46 : decode cX4_isBook 46 = .ok (.ireturn, 1) := by decide +kernel
set_option maxRecDepth 20000 in
theorem ggX4_read_X4_wrongSheet : GoodIn wsX4_read wsX4_wrongSheet := goodIn_r _ [7, 1, 8, 9, 10, 11, 6, 12, 13, 14, 15, 16, 93, 94, 95, 96, 97, 98, 99, 100, 101, 102, 103, 104, 105, 106, 107, 108, 109, 110, 111] (by decide +kernel) (by decide +kernel)
set_option maxRecDepth 20000 in
theorem gX4_read_X4_wrongSheet : GoodIn wsX4_read (wsV RX4 293 RX4 yX4_wrongSheet wsX4_wrongSheet) := goodIn_app (goodIn_of _ (by decide +kernel)) ggX4_read_X4_wrongSheet
set_option maxRecDepth 20000 in
theorem ggX4_read_X4_finds : GoodIn wsX4_read wsX4_finds := goodIn_r _ [20, 21, 1, 93, 94, 95, 96, 97, 98, 99, 100, 101, 102, 103, 104, 105, 106, 107, 108, 109, 110, 111] (by decide +kernel) (by decide +kernel)
set_option maxRecDepth 20000 in
theorem gX4_read_X4_finds : GoodIn wsX4_read (wsV RX4 77 RX4 yX4_finds wsX4_finds) := goodIn_app (goodIn_of _ (by decide +kernel)) ggX4_read_X4_finds
set_option maxRecDepth 20000 in
theorem ggX4_read_X4_isTree : GoodIn wsX4_read wsX4_isTree := goodIn_r _ [24, 25, 14, 15, 6, 16] (by decide +kernel) (by decide +kernel)
set_option maxRecDepth 20000 in
theorem gX4_read_X4_isTree : GoodIn wsX4_read (va_wsS RX4 73 yX4_isTree wsX4_isTree) := goodIn_app (goodIn_of _ (by decide +kernel)) ggX4_read_X4_isTree
set_option maxRecDepth 20000 in
theorem ggX4_read_X4_laysAside : GoodIn wsX4_read wsX4_laysAside := goodIn_r _ [29, 30, 2, 93, 94, 95, 96, 97, 98, 99, 100, 101, 102, 103, 104, 105, 106, 107, 108, 109, 110, 111] (by decide +kernel) (by decide +kernel)
set_option maxRecDepth 20000 in
theorem gX4_read_X4_laysAside : GoodIn wsX4_read (wsV RX4 161 RX4 yX4_laysAside wsX4_laysAside) := goodIn_app (goodIn_of _ (by decide +kernel)) ggX4_read_X4_laysAside
set_option maxRecDepth 20000 in
theorem ggX4_read_X4_spotOf : GoodIn wsX4_read wsX4_spotOf := goodIn_r _ [33] (by decide +kernel) (by decide +kernel)
set_option maxRecDepth 20000 in
theorem gX4_read_X4_spotOf : GoodIn wsX4_read (va_wsS RX4 59 yX4_spotOf wsX4_spotOf) := goodIn_app (goodIn_of _ (by decide +kernel)) ggX4_read_X4_spotOf
set_option maxRecDepth 20000 in
theorem ggX4_read_X4_isBook : GoodIn wsX4_read wsX4_isBook := goodIn_r _ [37, 38, 39, 40, 41, 42, 6, 43, 44, 45, 46, 47, 48, 49, 50, 51, 52, 53, 54, 55, 2, 31, 32, 33, 56, 57, 58, 59, 60, 61, 62, 63, 64, 65, 66, 67, 68, 69, 70, 71, 72, 73, 74, 75, 76, 77, 78, 79, 80, 81, 82, 83, 84, 85, 86, 87, 88, 93, 94, 95, 96, 97, 98, 99, 100, 101, 102, 103, 104, 105, 106, 107, 108, 109, 110, 111] (by decide +kernel) (by decide +kernel)
set_option maxRecDepth 20000 in
theorem gX4_read_X4_isBook : GoodIn wsX4_read (wsV RX4 300 RX4 yX4_isBook wsX4_isBook) := goodIn_app (goodIn_of _ (by decide +kernel)) ggX4_read_X4_isBook
set_option maxRecDepth 20000 in
theorem ggX4_read_X4_takesBack : GoodIn wsX4_read wsX4_takesBack := goodIn_r _ [92, 2, 30, 93, 94, 95, 96, 97, 98, 99, 100, 101, 102, 103, 104, 105, 106, 107, 108, 109, 110, 111] (by decide +kernel) (by decide +kernel)
set_option maxRecDepth 20000 in
theorem gX4_read_X4_takesBack : GoodIn wsX4_read (wsV RX4 164 RX4 yX4_takesBack wsX4_takesBack) := goodIn_app (goodIn_of _ (by decide +kernel)) ggX4_read_X4_takesBack
theorem dX4_read_0 : decode cX4_read 0 = .ok (.aload_n 0, 1) := by decide +kernel
theorem dX4_read_1 : decode cX4_read 1 = .ok (.iload_n 1, 1) := by decide +kernel
theorem dX4_read_2 : decode cX4_read 2 = .ok (.invokevirtual 293, 3) := by decide +kernel
theorem dX4_read_5 : decode cX4_read 5 = .ok (.istore 4, 2) := by decide +kernel
theorem dX4_read_7 : decode cX4_read 7 = .ok (.iload 4, 2) := by decide +kernel
theorem dX4_read_9 : decode cX4_read 9 = .ok (.ifCond .eq 10, 3) := by decide +kernel
theorem dX4_read_12 : decode cX4_read 12 = .ok (.aload_n 0, 1) := by decide +kernel
theorem dX4_read_13 : decode cX4_read 13 = .ok (.iload 4, 2) := by decide +kernel
theorem dX4_read_15 : decode cX4_read 15 = .ok (.invokevirtual 77, 3) := by decide +kernel
theorem dX4_read_18 : decode cX4_read 18 = .ok (.ireturn, 1) := by decide +kernel
theorem dX4_read_19 : decode cX4_read 19 = .ok (.iload_n 2, 1) := by decide +kernel
theorem dX4_read_20 : decode cX4_read 20 = .ok (.invokestatic 73, 3) := by decide +kernel
theorem dX4_read_23 : decode cX4_read 23 = .ok (.ifCond .eq 15, 3) := by decide +kernel
theorem dX4_read_26 : decode cX4_read 26 = .ok (.iload_n 3, 1) := by decide +kernel
theorem dX4_read_27 : decode cX4_read 27 = .ok (.invokestatic 73, 3) := by decide +kernel
theorem dX4_read_30 : decode cX4_read 30 = .ok (.ifCond .eq 8, 3) := by decide +kernel
theorem dX4_read_33 : decode cX4_read 33 = .ok (.iload_n 2, 1) := by decide +kernel
theorem dX4_read_34 : decode cX4_read 34 = .ok (.iload_n 3, 1) := by decide +kernel
theorem dX4_read_35 : decode cX4_read 35 = .ok (.if_icmp .ne 10, 3) := by decide +kernel
theorem dX4_read_38 : decode cX4_read 38 = .ok (.aload_n 0, 1) := by decide +kernel
theorem dX4_read_39 : decode cX4_read 39 = .ok (.ldc 48, 2) := by decide +kernel
theorem dX4_read_41 : decode cX4_read 41 = .ok (.invokevirtual 77, 3) := by decide +kernel
theorem dX4_read_44 : decode cX4_read 44 = .ok (.ireturn, 1) := by decide +kernel
theorem dX4_read_45 : decode cX4_read 45 = .ok (.aload_n 0, 1) := by decide +kernel
theorem dX4_read_46 : decode cX4_read 46 = .ok (.invokevirtual 161, 3) := by decide +kernel
theorem dX4_read_49 : decode cX4_read 49 = .ok (.iconst 0, 1) := by decide +kernel
theorem dX4_read_50 : decode cX4_read 50 = .ok (.istore 5, 2) := by decide +kernel
theorem dX4_read_52 : decode cX4_read 52 = .ok (.iconst 0, 1) := by decide +kernel
theorem dX4_read_53 : decode cX4_read 53 = .ok (.istore 6, 2) := by decide +kernel
theorem dX4_read_55 : decode cX4_read 55 = .ok (.iload 6, 2) := by decide +kernel
theorem dX4_read_57 : decode cX4_read 57 = .ok (.bipush 36, 2) := by decide +kernel
theorem dX4_read_59 : decode cX4_read 59 = .ok (.if_icmp .ge 62, 3) := by decide +kernel
theorem dX4_read_62 : decode cX4_read 62 = .ok (.aload_n 0, 1) := by decide +kernel
theorem dX4_read_63 : decode cX4_read 63 = .ok (.getfield 7, 3) := by decide +kernel
theorem dX4_read_66 : decode cX4_read 66 = .ok (.iload_n 2, 1) := by decide +kernel
theorem dX4_read_67 : decode cX4_read 67 = .ok (.iconst 0, 1) := by decide +kernel
theorem dX4_read_68 : decode cX4_read 68 = .ok (.invokestatic 59, 3) := by decide +kernel
theorem dX4_read_71 : decode cX4_read 71 = .ok (.iload 6, 2) := by decide +kernel
theorem dX4_read_73 : decode cX4_read 73 = .ok (.bipush 6, 2) := by decide +kernel
theorem dX4_read_75 : decode cX4_read 75 = .ok (.idiv, 1) := by decide +kernel
theorem dX4_read_76 : decode cX4_read 76 = .ok (.iastore, 1) := by decide +kernel
theorem dX4_read_77 : decode cX4_read 77 = .ok (.aload_n 0, 1) := by decide +kernel
theorem dX4_read_78 : decode cX4_read 78 = .ok (.getfield 7, 3) := by decide +kernel
theorem dX4_read_81 : decode cX4_read 81 = .ok (.iload_n 3, 1) := by decide +kernel
theorem dX4_read_82 : decode cX4_read 82 = .ok (.iconst 0, 1) := by decide +kernel
theorem dX4_read_83 : decode cX4_read 83 = .ok (.invokestatic 59, 3) := by decide +kernel
theorem dX4_read_86 : decode cX4_read 86 = .ok (.iload 6, 2) := by decide +kernel
theorem dX4_read_88 : decode cX4_read 88 = .ok (.bipush 6, 2) := by decide +kernel
theorem dX4_read_90 : decode cX4_read 90 = .ok (.irem, 1) := by decide +kernel
theorem dX4_read_91 : decode cX4_read 91 = .ok (.iastore, 1) := by decide +kernel
theorem dX4_read_92 : decode cX4_read 92 = .ok (.aload_n 0, 1) := by decide +kernel
theorem dX4_read_93 : decode cX4_read 93 = .ok (.iload 5, 2) := by decide +kernel
theorem dX4_read_95 : decode cX4_read 95 = .ok (.aload_n 0, 1) := by decide +kernel
theorem dX4_read_96 : decode cX4_read 96 = .ok (.iload_n 1, 1) := by decide +kernel
theorem dX4_read_97 : decode cX4_read 97 = .ok (.iload_n 2, 1) := by decide +kernel
theorem dX4_read_98 : decode cX4_read 98 = .ok (.invokevirtual 300, 3) := by decide +kernel
theorem dX4_read_101 : decode cX4_read 101 = .ok (.ifCond .eq 7, 3) := by decide +kernel
theorem dX4_read_104 : decode cX4_read 104 = .ok (.iconst 1, 1) := by decide +kernel
theorem dX4_read_105 : decode cX4_read 105 = .ok (.goto 4, 3) := by decide +kernel
theorem dX4_read_108 : decode cX4_read 108 = .ok (.iconst 0, 1) := by decide +kernel
theorem dX4_read_109 : decode cX4_read 109 = .ok (.iadd, 1) := by decide +kernel
theorem dX4_read_110 : decode cX4_read 110 = .ok (.invokevirtual 164, 3) := by decide +kernel
theorem dX4_read_113 : decode cX4_read 113 = .ok (.istore 5, 2) := by decide +kernel
theorem dX4_read_115 : decode cX4_read 115 = .ok (.iinc 6 1, 3) := by decide +kernel
theorem dX4_read_118 : decode cX4_read 118 = .ok (.goto (-63), 3) := by decide +kernel
theorem dX4_read_121 : decode cX4_read 121 = .ok (.iload 5, 2) := by decide +kernel
theorem dX4_read_123 : decode cX4_read 123 = .ok (.ireturn, 1) := by decide +kernel
theorem dX4_image_0 : decode cX4_image 0 = .ok (.iconst 0, 1) := by decide +kernel
theorem dX4_image_1 : decode cX4_image 1 = .ok (.istore_n 1, 1) := by decide +kernel
theorem dX4_image_2 : decode cX4_image 2 = .ok (.iload_n 1, 1) := by decide +kernel
theorem dX4_image_3 : decode cX4_image 3 = .ok (.bipush 122, 2) := by decide +kernel
theorem dX4_image_5 : decode cX4_image 5 = .ok (.if_icmp .ge 21, 3) := by decide +kernel
theorem dX4_image_8 : decode cX4_image 8 = .ok (.aload_n 0, 1) := by decide +kernel
theorem dX4_image_9 : decode cX4_image 9 = .ok (.getfield 13, 3) := by decide +kernel
theorem dX4_image_12 : decode cX4_image 12 = .ok (.iload_n 1, 1) := by decide +kernel
theorem dX4_image_13 : decode cX4_image 13 = .ok (.aload_n 0, 1) := by decide +kernel
theorem dX4_image_14 : decode cX4_image 14 = .ok (.getfield 7, 3) := by decide +kernel
theorem dX4_image_17 : decode cX4_image 17 = .ok (.iload_n 1, 1) := by decide +kernel
theorem dX4_image_18 : decode cX4_image 18 = .ok (.iaload, 1) := by decide +kernel
theorem dX4_image_19 : decode cX4_image 19 = .ok (.iastore, 1) := by decide +kernel
theorem dX4_image_20 : decode cX4_image 20 = .ok (.iinc 1 1, 3) := by decide +kernel
theorem dX4_image_23 : decode cX4_image 23 = .ok (.goto (-21), 3) := by decide +kernel
theorem dX4_image_26 : decode cX4_image 26 = .ok (.aload_n 0, 1) := by decide +kernel
theorem dX4_image_27 : decode cX4_image 27 = .ok (.iconst 1, 1) := by decide +kernel
theorem dX4_image_28 : decode cX4_image 28 = .ok (.putfield 303, 3) := by decide +kernel
theorem dX4_image_31 : decode cX4_image 31 = .ok (.iconst 1, 1) := by decide +kernel
theorem dX4_image_32 : decode cX4_image 32 = .ok (.ireturn, 1) := by decide +kernel
set_option maxRecDepth 20000 in
theorem ggX4_undo_X4_finds : GoodIn wsX4_undo wsX4_finds := goodIn_r _ [9, 10, 11, 12, 13, 14, 15, 16, 17, 18, 19, 20, 21, 22, 23, 24, 25, 26, 27, 28, 29, 30] (by decide +kernel) (by decide +kernel)
set_option maxRecDepth 20000 in
theorem gX4_undo_X4_finds : GoodIn wsX4_undo (wsV RX4 77 RX4 yX4_finds wsX4_finds) := goodIn_app (goodIn_of _ (by decide +kernel)) ggX4_undo_X4_finds
theorem dX4_undo_0 : decode cX4_undo 0 = .ok (.aload_n 0, 1) := by decide +kernel
theorem dX4_undo_1 : decode cX4_undo 1 = .ok (.getfield 303, 3) := by decide +kernel
theorem dX4_undo_4 : decode cX4_undo 4 = .ok (.ifCond .ne 10, 3) := by decide +kernel
theorem dX4_undo_7 : decode cX4_undo 7 = .ok (.aload_n 0, 1) := by decide +kernel
theorem dX4_undo_8 : decode cX4_undo 8 = .ok (.ldc 97, 2) := by decide +kernel
theorem dX4_undo_10 : decode cX4_undo 10 = .ok (.invokevirtual 77, 3) := by decide +kernel
theorem dX4_undo_13 : decode cX4_undo 13 = .ok (.ireturn, 1) := by decide +kernel
theorem dX4_undo_14 : decode cX4_undo 14 = .ok (.iconst 0, 1) := by decide +kernel
theorem dX4_undo_15 : decode cX4_undo 15 = .ok (.istore_n 1, 1) := by decide +kernel
theorem dX4_undo_16 : decode cX4_undo 16 = .ok (.iload_n 1, 1) := by decide +kernel
theorem dX4_undo_17 : decode cX4_undo 17 = .ok (.bipush 122, 2) := by decide +kernel
theorem dX4_undo_19 : decode cX4_undo 19 = .ok (.if_icmp .ge 21, 3) := by decide +kernel
theorem dX4_undo_22 : decode cX4_undo 22 = .ok (.aload_n 0, 1) := by decide +kernel
theorem dX4_undo_23 : decode cX4_undo 23 = .ok (.getfield 7, 3) := by decide +kernel
theorem dX4_undo_26 : decode cX4_undo 26 = .ok (.iload_n 1, 1) := by decide +kernel
theorem dX4_undo_27 : decode cX4_undo 27 = .ok (.aload_n 0, 1) := by decide +kernel
theorem dX4_undo_28 : decode cX4_undo 28 = .ok (.getfield 13, 3) := by decide +kernel
theorem dX4_undo_31 : decode cX4_undo 31 = .ok (.iload_n 1, 1) := by decide +kernel
theorem dX4_undo_32 : decode cX4_undo 32 = .ok (.iaload, 1) := by decide +kernel
theorem dX4_undo_33 : decode cX4_undo 33 = .ok (.iastore, 1) := by decide +kernel
theorem dX4_undo_34 : decode cX4_undo 34 = .ok (.iinc 1 1, 3) := by decide +kernel
theorem dX4_undo_37 : decode cX4_undo 37 = .ok (.goto (-21), 3) := by decide +kernel
theorem dX4_undo_40 : decode cX4_undo 40 = .ok (.aload_n 0, 1) := by decide +kernel
theorem dX4_undo_41 : decode cX4_undo 41 = .ok (.getfield 7, 3) := by decide +kernel
theorem dX4_undo_44 : decode cX4_undo 44 = .ok (.iconst 0, 1) := by decide +kernel
theorem dX4_undo_45 : decode cX4_undo 45 = .ok (.iaload, 1) := by decide +kernel
theorem dX4_undo_46 : decode cX4_undo 46 = .ok (.ireturn, 1) := by decide +kernel
theorem dX4_tear_0 : decode cX4_tear 0 = .ok (.aload_n 0, 1) := by decide +kernel
theorem dX4_tear_1 : decode cX4_tear 1 = .ok (.getfield 303, 3) := by decide +kernel
theorem dX4_tear_4 : decode cX4_tear 4 = .ok (.ifCond .eq 7, 3) := by decide +kernel
theorem dX4_tear_7 : decode cX4_tear 7 = .ok (.iconst 1, 1) := by decide +kernel
theorem dX4_tear_8 : decode cX4_tear 8 = .ok (.goto 4, 3) := by decide +kernel
theorem dX4_tear_11 : decode cX4_tear 11 = .ok (.iconst 0, 1) := by decide +kernel
theorem dX4_tear_12 : decode cX4_tear 12 = .ok (.istore_n 1, 1) := by decide +kernel
theorem dX4_tear_13 : decode cX4_tear 13 = .ok (.aload_n 0, 1) := by decide +kernel
theorem dX4_tear_14 : decode cX4_tear 14 = .ok (.iconst 0, 1) := by decide +kernel
theorem dX4_tear_15 : decode cX4_tear 15 = .ok (.putfield 303, 3) := by decide +kernel
theorem dX4_tear_18 : decode cX4_tear 18 = .ok (.iload_n 1, 1) := by decide +kernel
theorem dX4_tear_19 : decode cX4_tear 19 = .ok (.ireturn, 1) := by decide +kernel
set_option maxRecDepth 20000 in
theorem ggX4_noLimes_X4_its : GoodIn wsX4_noLimes wsX4_its := goodIn_r _ [5, 6, 7, 8, 4, 9, 10, 11, 12, 13, 14, 15, 16, 17, 18, 19, 20, 21, 22, 23, 24, 25, 26, 27, 28] (by decide +kernel) (by decide +kernel)
set_option maxRecDepth 20000 in
theorem gX4_noLimes_X4_its : GoodIn wsX4_noLimes (wsV RX4 63 RX4 yX4_its wsX4_its) := goodIn_app (goodIn_of _ (by decide +kernel)) ggX4_noLimes_X4_its
theorem dX4_noLimes_0 : decode cX4_noLimes 0 = .ok (.iconst 0, 1) := by decide +kernel
theorem dX4_noLimes_1 : decode cX4_noLimes 1 = .ok (.istore_n 1, 1) := by decide +kernel
theorem dX4_noLimes_2 : decode cX4_noLimes 2 = .ok (.iconst 0, 1) := by decide +kernel
theorem dX4_noLimes_3 : decode cX4_noLimes 3 = .ok (.istore_n 2, 1) := by decide +kernel
theorem dX4_noLimes_4 : decode cX4_noLimes 4 = .ok (.iload_n 2, 1) := by decide +kernel
theorem dX4_noLimes_5 : decode cX4_noLimes 5 = .ok (.bipush 12, 2) := by decide +kernel
theorem dX4_noLimes_7 : decode cX4_noLimes 7 = .ok (.if_icmp .ge 26, 3) := by decide +kernel
theorem dX4_noLimes_10 : decode cX4_noLimes 10 = .ok (.iload_n 1, 1) := by decide +kernel
theorem dX4_noLimes_11 : decode cX4_noLimes 11 = .ok (.aload_n 0, 1) := by decide +kernel
theorem dX4_noLimes_12 : decode cX4_noLimes 12 = .ok (.iload_n 2, 1) := by decide +kernel
theorem dX4_noLimes_13 : decode cX4_noLimes 13 = .ok (.iconst 0, 1) := by decide +kernel
theorem dX4_noLimes_14 : decode cX4_noLimes 14 = .ok (.invokevirtual 63, 3) := by decide +kernel
theorem dX4_noLimes_17 : decode cX4_noLimes 17 = .ok (.ifCond .eq 7, 3) := by decide +kernel
theorem dX4_noLimes_20 : decode cX4_noLimes 20 = .ok (.iconst 1, 1) := by decide +kernel
theorem dX4_noLimes_21 : decode cX4_noLimes 21 = .ok (.goto 4, 3) := by decide +kernel
theorem dX4_noLimes_24 : decode cX4_noLimes 24 = .ok (.iconst 0, 1) := by decide +kernel
theorem dX4_noLimes_25 : decode cX4_noLimes 25 = .ok (.iadd, 1) := by decide +kernel
theorem dX4_noLimes_26 : decode cX4_noLimes 26 = .ok (.istore_n 1, 1) := by decide +kernel
theorem dX4_noLimes_27 : decode cX4_noLimes 27 = .ok (.iinc 2 1, 3) := by decide +kernel
theorem dX4_noLimes_30 : decode cX4_noLimes 30 = .ok (.goto (-26), 3) := by decide +kernel
theorem dX4_noLimes_33 : decode cX4_noLimes 33 = .ok (.iload_n 1, 1) := by decide +kernel
theorem dX4_noLimes_34 : decode cX4_noLimes 34 = .ok (.ireturn, 1) := by decide +kernel
set_option maxRecDepth 20000 in
theorem ggX4_knowingOnes_X4_knownBy : GoodIn wsX4_knowingOnes wsX4_knownBy := goodIn_r _ [5, 6, 7, 8, 4, 9, 10, 11, 12, 13, 14, 15, 16, 17, 18, 19, 20, 21, 22, 23, 24, 25, 26, 27, 28, 29, 30, 31, 32, 33, 34, 35, 36, 37, 38, 39, 40] (by decide +kernel) (by decide +kernel)
set_option maxRecDepth 20000 in
theorem gX4_knowingOnes_X4_knownBy : GoodIn wsX4_knowingOnes (wsV RX4 91 RX4 yX4_knownBy wsX4_knownBy) := goodIn_app (goodIn_of _ (by decide +kernel)) ggX4_knowingOnes_X4_knownBy
theorem dX4_knowingOnes_0 : decode cX4_knowingOnes 0 = .ok (.iconst 0, 1) := by decide +kernel
theorem dX4_knowingOnes_1 : decode cX4_knowingOnes 1 = .ok (.istore_n 1, 1) := by decide +kernel
theorem dX4_knowingOnes_2 : decode cX4_knowingOnes 2 = .ok (.iconst 0, 1) := by decide +kernel
theorem dX4_knowingOnes_3 : decode cX4_knowingOnes 3 = .ok (.istore_n 2, 1) := by decide +kernel
theorem dX4_knowingOnes_4 : decode cX4_knowingOnes 4 = .ok (.iload_n 2, 1) := by decide +kernel
theorem dX4_knowingOnes_5 : decode cX4_knowingOnes 5 = .ok (.bipush 12, 2) := by decide +kernel
theorem dX4_knowingOnes_7 : decode cX4_knowingOnes 7 = .ok (.if_icmp .ge 25, 3) := by decide +kernel
theorem dX4_knowingOnes_10 : decode cX4_knowingOnes 10 = .ok (.iload_n 1, 1) := by decide +kernel
theorem dX4_knowingOnes_11 : decode cX4_knowingOnes 11 = .ok (.aload_n 0, 1) := by decide +kernel
theorem dX4_knowingOnes_12 : decode cX4_knowingOnes 12 = .ok (.iload_n 2, 1) := by decide +kernel
theorem dX4_knowingOnes_13 : decode cX4_knowingOnes 13 = .ok (.invokevirtual 91, 3) := by decide +kernel
theorem dX4_knowingOnes_16 : decode cX4_knowingOnes 16 = .ok (.ifCond .eq 7, 3) := by decide +kernel
theorem dX4_knowingOnes_19 : decode cX4_knowingOnes 19 = .ok (.iconst 1, 1) := by decide +kernel
theorem dX4_knowingOnes_20 : decode cX4_knowingOnes 20 = .ok (.goto 4, 3) := by decide +kernel
theorem dX4_knowingOnes_23 : decode cX4_knowingOnes 23 = .ok (.iconst 0, 1) := by decide +kernel
theorem dX4_knowingOnes_24 : decode cX4_knowingOnes 24 = .ok (.iadd, 1) := by decide +kernel
theorem dX4_knowingOnes_25 : decode cX4_knowingOnes 25 = .ok (.istore_n 1, 1) := by decide +kernel
theorem dX4_knowingOnes_26 : decode cX4_knowingOnes 26 = .ok (.iinc 2 1, 3) := by decide +kernel
theorem dX4_knowingOnes_29 : decode cX4_knowingOnes 29 = .ok (.goto (-25), 3) := by decide +kernel
theorem dX4_knowingOnes_32 : decode cX4_knowingOnes 32 = .ok (.iload_n 1, 1) := by decide +kernel
theorem dX4_knowingOnes_33 : decode cX4_knowingOnes 33 = .ok (.ireturn, 1) := by decide +kernel
set_option maxRecDepth 20000 in
theorem ggX4_count_X4_noLimes : GoodIn wsX4_count wsX4_noLimes := goodIn_r _ [8, 9, 10, 11, 7, 12, 2, 13, 14, 15, 40, 41, 42, 43, 44, 45, 46, 47, 48, 49, 50, 51, 52, 53, 54, 55, 56, 57, 58] (by decide +kernel) (by decide +kernel)
set_option maxRecDepth 20000 in
theorem gX4_count_X4_noLimes : GoodIn wsX4_count (wsV RX4 306 RX4 yX4_noLimes wsX4_noLimes) := goodIn_app (goodIn_of _ (by decide +kernel)) ggX4_count_X4_noLimes
set_option maxRecDepth 20000 in
theorem ggX4_count_X4_ones : GoodIn wsX4_count wsX4_ones := goodIn_r _ [18] (by decide +kernel) (by decide +kernel)
set_option maxRecDepth 20000 in
theorem gX4_count_X4_ones : GoodIn wsX4_count (va_wsS RX4 150 yX4_ones wsX4_ones) := goodIn_app (goodIn_of _ (by decide +kernel)) ggX4_count_X4_ones
set_option maxRecDepth 20000 in
theorem ggX4_count_X4_knowingOnes : GoodIn wsX4_count wsX4_knowingOnes := goodIn_r _ [22, 23, 24, 25, 7, 26, 27, 28, 29, 30, 31, 32, 33, 34, 9, 10, 11, 12, 2, 13, 14, 15, 40, 41, 42, 43, 44, 45, 46, 47, 48, 49, 50, 51, 52, 53, 54, 55, 56, 57, 58] (by decide +kernel) (by decide +kernel)
set_option maxRecDepth 20000 in
theorem gX4_count_X4_knowingOnes : GoodIn wsX4_count (wsV RX4 309 RX4 yX4_knowingOnes wsX4_knowingOnes) := goodIn_app (goodIn_of _ (by decide +kernel)) ggX4_count_X4_knowingOnes
set_option maxRecDepth 20000 in
theorem ggX4_count_X4_finds : GoodIn wsX4_count wsX4_finds := goodIn_r _ [38, 39, 3, 40, 41, 42, 43, 44, 45, 46, 47, 48, 49, 50, 51, 52, 53, 54, 55, 56, 57, 58] (by decide +kernel) (by decide +kernel)
set_option maxRecDepth 20000 in
theorem gX4_count_X4_finds : GoodIn wsX4_count (wsV RX4 77 RX4 yX4_finds wsX4_finds) := goodIn_app (goodIn_of _ (by decide +kernel)) ggX4_count_X4_finds
theorem dX4_count_0 : decode cX4_count 0 = .ok (.iload_n 1, 1) := by decide +kernel
theorem dX4_count_1 : decode cX4_count 1 = .ok (.tableswitch 56 0 3 #[31, 36, 41, 51], 31) := by decide +kernel
theorem dX4_count_32 : decode cX4_count 32 = .ok (.aload_n 0, 1) := by decide +kernel
theorem dX4_count_33 : decode cX4_count 33 = .ok (.invokevirtual 306, 3) := by decide +kernel
theorem dX4_count_36 : decode cX4_count 36 = .ok (.ireturn, 1) := by decide +kernel
theorem dX4_count_37 : decode cX4_count 37 = .ok (.aload_n 0, 1) := by decide +kernel
theorem dX4_count_38 : decode cX4_count 38 = .ok (.getfield 194, 3) := by decide +kernel
theorem dX4_count_41 : decode cX4_count 41 = .ok (.ireturn, 1) := by decide +kernel
theorem dX4_count_42 : decode cX4_count 42 = .ok (.aload_n 0, 1) := by decide +kernel
theorem dX4_count_43 : decode cX4_count 43 = .ok (.getfield 7, 3) := by decide +kernel
theorem dX4_count_46 : decode cX4_count 46 = .ok (.iconst 1, 1) := by decide +kernel
theorem dX4_count_47 : decode cX4_count 47 = .ok (.iaload, 1) := by decide +kernel
theorem dX4_count_48 : decode cX4_count 48 = .ok (.invokestatic 150, 3) := by decide +kernel
theorem dX4_count_51 : decode cX4_count 51 = .ok (.ireturn, 1) := by decide +kernel
theorem dX4_count_52 : decode cX4_count 52 = .ok (.aload_n 0, 1) := by decide +kernel
theorem dX4_count_53 : decode cX4_count 53 = .ok (.invokevirtual 309, 3) := by decide +kernel
theorem dX4_count_56 : decode cX4_count 56 = .ok (.ireturn, 1) := by decide +kernel
theorem dX4_count_57 : decode cX4_count 57 = .ok (.aload_n 0, 1) := by decide +kernel
theorem dX4_count_58 : decode cX4_count 58 = .ok (.ldc 48, 2) := by decide +kernel
theorem dX4_count_60 : decode cX4_count 60 = .ok (.invokevirtual 77, 3) := by decide +kernel
theorem dX4_count_63 : decode cX4_count 63 = .ok (.ireturn, 1) := by decide +kernel
set_option maxRecDepth 20000 in
theorem ggX4_status_X4_in : GoodIn wsX4_status wsX4_in := goodIn_r _ [8] (by decide +kernel) (by decide +kernel)
set_option maxRecDepth 20000 in
theorem gX4_status_X4_in : GoodIn wsX4_status (va_wsS RX4 51 yX4_in wsX4_in) := goodIn_app (goodIn_of _ (by decide +kernel)) ggX4_status_X4_in
set_option maxRecDepth 20000 in
theorem ggX4_status_X4_finds : GoodIn wsX4_status wsX4_finds := goodIn_r _ [12, 4, 3, 13, 14, 15, 16, 17, 18, 19, 20, 21, 22, 23, 24, 25, 26, 27, 28, 29, 30, 31] (by decide +kernel) (by decide +kernel)
set_option maxRecDepth 20000 in
theorem gX4_status_X4_finds : GoodIn wsX4_status (wsV RX4 77 RX4 yX4_finds wsX4_finds) := goodIn_app (goodIn_of _ (by decide +kernel)) ggX4_status_X4_finds
theorem dX4_status_0 : decode cX4_status 0 = .ok (.iload_n 1, 1) := by decide +kernel
theorem dX4_status_1 : decode cX4_status 1 = .ok (.i2l, 1) := by decide +kernel
theorem dX4_status_2 : decode cX4_status 2 = .ok (.ldc2_w 312, 3) := by decide +kernel
theorem dX4_status_5 : decode cX4_status 5 = .ok (.ldc2_w 314, 3) := by decide +kernel
theorem dX4_status_8 : decode cX4_status 8 = .ok (.invokestatic 51, 3) := by decide +kernel
theorem dX4_status_11 : decode cX4_status 11 = .ok (.ifCond .ne 10, 3) := by decide +kernel
theorem dX4_status_14 : decode cX4_status 14 = .ok (.aload_n 0, 1) := by decide +kernel
theorem dX4_status_15 : decode cX4_status 15 = .ok (.ldc 48, 2) := by decide +kernel
theorem dX4_status_17 : decode cX4_status 17 = .ok (.invokevirtual 77, 3) := by decide +kernel
theorem dX4_status_20 : decode cX4_status 20 = .ok (.ireturn, 1) := by decide +kernel
theorem dX4_status_21 : decode cX4_status 21 = .ok (.iconst 0, 1) := by decide +kernel
theorem dX4_status_22 : decode cX4_status 22 = .ok (.istore_n 2, 1) := by decide +kernel
theorem dX4_status_23 : decode cX4_status 23 = .ok (.iconst 0, 1) := by decide +kernel
theorem dX4_status_24 : decode cX4_status 24 = .ok (.istore_n 3, 1) := by decide +kernel
theorem dX4_status_25 : decode cX4_status 25 = .ok (.iload_n 3, 1) := by decide +kernel
theorem dX4_status_26 : decode cX4_status 26 = .ok (.bipush 7, 2) := by decide +kernel
theorem dX4_status_28 : decode cX4_status 28 = .ok (.if_icmp .ge 31, 3) := by decide +kernel
theorem dX4_status_31 : decode cX4_status 31 = .ok (.iload_n 2, 1) := by decide +kernel
theorem dX4_status_32 : decode cX4_status 32 = .ok (.iload_n 1, 1) := by decide +kernel
theorem dX4_status_33 : decode cX4_status 33 = .ok (.ifCond .lt 8, 3) := by decide +kernel
theorem dX4_status_36 : decode cX4_status 36 = .ok (.iload_n 3, 1) := by decide +kernel
theorem dX4_status_37 : decode cX4_status 37 = .ok (.iload_n 1, 1) := by decide +kernel
theorem dX4_status_38 : decode cX4_status 38 = .ok (.if_icmp .ne 12, 3) := by decide +kernel
theorem dX4_status_41 : decode cX4_status 41 = .ok (.aload_n 0, 1) := by decide +kernel
theorem dX4_status_42 : decode cX4_status 42 = .ok (.getfield 22, 3) := by decide +kernel
theorem dX4_status_45 : decode cX4_status 45 = .ok (.iload_n 3, 1) := by decide +kernel
theorem dX4_status_46 : decode cX4_status 46 = .ok (.iaload, 1) := by decide +kernel
theorem dX4_status_47 : decode cX4_status 47 = .ok (.goto 4, 3) := by decide +kernel
theorem dX4_status_50 : decode cX4_status 50 = .ok (.iconst 0, 1) := by decide +kernel
theorem dX4_status_51 : decode cX4_status 51 = .ok (.iadd, 1) := by decide +kernel
theorem dX4_status_52 : decode cX4_status 52 = .ok (.istore_n 2, 1) := by decide +kernel
theorem dX4_status_53 : decode cX4_status 53 = .ok (.iinc 3 1, 3) := by decide +kernel
theorem dX4_status_56 : decode cX4_status 56 = .ok (.goto (-31), 3) := by decide +kernel
theorem dX4_status_59 : decode cX4_status 59 = .ok (.iload_n 2, 1) := by decide +kernel
theorem dX4_status_60 : decode cX4_status 60 = .ok (.ireturn, 1) := by decide +kernel
