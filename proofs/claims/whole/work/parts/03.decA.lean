set_option maxRecDepth 20000 in
theorem ggX0_init_J7_fill_53178 : GoodIn wsX0_init wsJ7_fill_53178 := goodIn_r _ [14] (by decide +kernel) (by decide +kernel)
set_option maxRecDepth 20000 in
theorem gX0_init_J7_fill_53178 : GoodIn wsX0_init (va_wsS RX0 31 yJ7_fill_53178 wsJ7_fill_53178) := goodIn_app (goodIn_of _ (by decide +kernel)) ggX0_init_J7_fill_53178
theorem dX0_init_0 : decode cX0_init 0 = .ok (.aload_n 0, 1) := by decide +kernel
theorem dX0_init_1 : decode cX0_init 1 = .ok (.invokespecial 3, 3) := by decide +kernel
theorem dX0_init_4 : decode cX0_init 4 = .ok (.aload_n 0, 1) := by decide +kernel
theorem dX0_init_5 : decode cX0_init 5 = .ok (.iconst 0, 1) := by decide +kernel
theorem dX0_init_6 : decode cX0_init 6 = .ok (.putfield 9, 3) := by decide +kernel
theorem dX0_init_9 : decode cX0_init 9 = .ok (.aload_n 0, 1) := by decide +kernel
theorem dX0_init_10 : decode cX0_init 10 = .ok (.bipush 63, 2) := by decide +kernel
theorem dX0_init_12 : decode cX0_init 12 = .ok (.putfield 15, 3) := by decide +kernel
theorem dX0_init_15 : decode cX0_init 15 = .ok (.aload_n 0, 1) := by decide +kernel
theorem dX0_init_16 : decode cX0_init 16 = .ok (.bipush 12, 2) := by decide +kernel
theorem dX0_init_18 : decode cX0_init 18 = .ok (.newarray .int, 2) := by decide +kernel
theorem dX0_init_20 : decode cX0_init 20 = .ok (.putfield 18, 3) := by decide +kernel
theorem dX0_init_23 : decode cX0_init 23 = .ok (.aload_n 0, 1) := by decide +kernel
theorem dX0_init_24 : decode cX0_init 24 = .ok (.bipush 12, 2) := by decide +kernel
theorem dX0_init_26 : decode cX0_init 26 = .ok (.newarray .int, 2) := by decide +kernel
theorem dX0_init_28 : decode cX0_init 28 = .ok (.putfield 22, 3) := by decide +kernel
theorem dX0_init_31 : decode cX0_init 31 = .ok (.aload_n 0, 1) := by decide +kernel
theorem dX0_init_32 : decode cX0_init 32 = .ok (.bipush 12, 2) := by decide +kernel
theorem dX0_init_34 : decode cX0_init 34 = .ok (.newarray .int, 2) := by decide +kernel
theorem dX0_init_36 : decode cX0_init 36 = .ok (.putfield 25, 3) := by decide +kernel
theorem dX0_init_39 : decode cX0_init 39 = .ok (.aload_n 0, 1) := by decide +kernel
theorem dX0_init_40 : decode cX0_init 40 = .ok (.bipush 96, 2) := by decide +kernel
theorem dX0_init_42 : decode cX0_init 42 = .ok (.newarray .int, 2) := by decide +kernel
theorem dX0_init_44 : decode cX0_init 44 = .ok (.putfield 28, 3) := by decide +kernel
theorem dX0_init_47 : decode cX0_init 47 = .ok (.aload_n 0, 1) := by decide +kernel
theorem dX0_init_48 : decode cX0_init 48 = .ok (.getfield 22, 3) := by decide +kernel
theorem dX0_init_51 : decode cX0_init 51 = .ok (.bipush 40, 2) := by decide +kernel
theorem dX0_init_53 : decode cX0_init 53 = .ok (.invokestatic 31, 3) := by decide +kernel
theorem dX0_init_56 : decode cX0_init 56 = .ok (.return_, 1) := by decide +kernel
theorem dX0_become_0 : decode cX0_become 0 = .ok (.aload_n 0, 1) := by decide +kernel
theorem dX0_become_1 : decode cX0_become 1 = .ok (.aload_n 1, 1) := by decide +kernel
theorem dX0_become_2 : decode cX0_become 2 = .ok (.getfield 9, 3) := by decide +kernel
theorem dX0_become_5 : decode cX0_become 5 = .ok (.putfield 9, 3) := by decide +kernel
theorem dX0_become_8 : decode cX0_become 8 = .ok (.aload_n 0, 1) := by decide +kernel
theorem dX0_become_9 : decode cX0_become 9 = .ok (.aload_n 1, 1) := by decide +kernel
theorem dX0_become_10 : decode cX0_become 10 = .ok (.getfield 15, 3) := by decide +kernel
theorem dX0_become_13 : decode cX0_become 13 = .ok (.putfield 15, 3) := by decide +kernel
theorem dX0_become_16 : decode cX0_become 16 = .ok (.aload_n 1, 1) := by decide +kernel
theorem dX0_become_17 : decode cX0_become 17 = .ok (.getfield 18, 3) := by decide +kernel
theorem dX0_become_20 : decode cX0_become 20 = .ok (.iconst 0, 1) := by decide +kernel
theorem dX0_become_21 : decode cX0_become 21 = .ok (.aload_n 0, 1) := by decide +kernel
theorem dX0_become_22 : decode cX0_become 22 = .ok (.getfield 18, 3) := by decide +kernel
theorem dX0_become_25 : decode cX0_become 25 = .ok (.iconst 0, 1) := by decide +kernel
theorem dX0_become_26 : decode cX0_become 26 = .ok (.bipush 12, 2) := by decide +kernel
theorem dX0_become_28 : decode cX0_become 28 = .ok (.invokestatic 37, 3) := by decide +kernel
theorem dX0_become_31 : decode cX0_become 31 = .ok (.aload_n 1, 1) := by decide +kernel
theorem dX0_become_32 : decode cX0_become 32 = .ok (.getfield 22, 3) := by decide +kernel
theorem dX0_become_35 : decode cX0_become 35 = .ok (.iconst 0, 1) := by decide +kernel
theorem dX0_become_36 : decode cX0_become 36 = .ok (.aload_n 0, 1) := by decide +kernel
theorem dX0_become_37 : decode cX0_become 37 = .ok (.getfield 22, 3) := by decide +kernel
theorem dX0_become_40 : decode cX0_become 40 = .ok (.iconst 0, 1) := by decide +kernel
theorem dX0_become_41 : decode cX0_become 41 = .ok (.bipush 12, 2) := by decide +kernel
theorem dX0_become_43 : decode cX0_become 43 = .ok (.invokestatic 37, 3) := by decide +kernel
theorem dX0_become_46 : decode cX0_become 46 = .ok (.aload_n 1, 1) := by decide +kernel
theorem dX0_become_47 : decode cX0_become 47 = .ok (.getfield 25, 3) := by decide +kernel
theorem dX0_become_50 : decode cX0_become 50 = .ok (.iconst 0, 1) := by decide +kernel
theorem dX0_become_51 : decode cX0_become 51 = .ok (.aload_n 0, 1) := by decide +kernel
theorem dX0_become_52 : decode cX0_become 52 = .ok (.getfield 25, 3) := by decide +kernel
theorem dX0_become_55 : decode cX0_become 55 = .ok (.iconst 0, 1) := by decide +kernel
theorem dX0_become_56 : decode cX0_become 56 = .ok (.bipush 12, 2) := by decide +kernel
theorem dX0_become_58 : decode cX0_become 58 = .ok (.invokestatic 37, 3) := by decide +kernel
theorem dX0_become_61 : decode cX0_become 61 = .ok (.aload_n 1, 1) := by decide +kernel
theorem dX0_become_62 : decode cX0_become 62 = .ok (.getfield 28, 3) := by decide +kernel
theorem dX0_become_65 : decode cX0_become 65 = .ok (.iconst 0, 1) := by decide +kernel
theorem dX0_become_66 : decode cX0_become 66 = .ok (.aload_n 0, 1) := by decide +kernel
theorem dX0_become_67 : decode cX0_become 67 = .ok (.getfield 28, 3) := by decide +kernel
theorem dX0_become_70 : decode cX0_become 70 = .ok (.iconst 0, 1) := by decide +kernel
theorem dX0_become_71 : decode cX0_become 71 = .ok (.bipush 96, 2) := by decide +kernel
theorem dX0_become_73 : decode cX0_become 73 = .ok (.invokestatic 37, 3) := by decide +kernel
theorem dX0_become_76 : decode cX0_become 76 = .ok (.return_, 1) := by decide +kernel
theorem dX0_setAnew_0 : decode cX0_setAnew 0 = .ok (.aload_n 0, 1) := by decide +kernel
theorem dX0_setAnew_1 : decode cX0_setAnew 1 = .ok (.getfield 18, 3) := by decide +kernel
theorem dX0_setAnew_4 : decode cX0_setAnew 4 = .ok (.iload_n 1, 1) := by decide +kernel
theorem dX0_setAnew_5 : decode cX0_setAnew 5 = .ok (.iload_n 2, 1) := by decide +kernel
theorem dX0_setAnew_6 : decode cX0_setAnew 6 = .ok (.iastore, 1) := by decide +kernel
theorem dX0_setAnew_7 : decode cX0_setAnew 7 = .ok (.aload_n 0, 1) := by decide +kernel
theorem dX0_setAnew_8 : decode cX0_setAnew 8 = .ok (.getfield 22, 3) := by decide +kernel
theorem dX0_setAnew_11 : decode cX0_setAnew 11 = .ok (.iload_n 1, 1) := by decide +kernel
theorem dX0_setAnew_12 : decode cX0_setAnew 12 = .ok (.iload_n 3, 1) := by decide +kernel
theorem dX0_setAnew_13 : decode cX0_setAnew 13 = .ok (.iastore, 1) := by decide +kernel
theorem dX0_setAnew_14 : decode cX0_setAnew 14 = .ok (.aload_n 0, 1) := by decide +kernel
theorem dX0_setAnew_15 : decode cX0_setAnew 15 = .ok (.getfield 25, 3) := by decide +kernel
theorem dX0_setAnew_18 : decode cX0_setAnew 18 = .ok (.iload_n 1, 1) := by decide +kernel
theorem dX0_setAnew_19 : decode cX0_setAnew 19 = .ok (.iconst 0, 1) := by decide +kernel
theorem dX0_setAnew_20 : decode cX0_setAnew 20 = .ok (.iastore, 1) := by decide +kernel
theorem dX0_setAnew_21 : decode cX0_setAnew 21 = .ok (.return_, 1) := by decide +kernel
theorem dX0_learntWhen_0 : decode cX0_learntWhen 0 = .ok (.aload_n 0, 1) := by decide +kernel
theorem dX0_learntWhen_1 : decode cX0_learntWhen 1 = .ok (.getfield 28, 3) := by decide +kernel
theorem dX0_learntWhen_4 : decode cX0_learntWhen 4 = .ok (.iload_n 1, 1) := by decide +kernel
theorem dX0_learntWhen_5 : decode cX0_learntWhen 5 = .ok (.bipush 8, 2) := by decide +kernel
theorem dX0_learntWhen_7 : decode cX0_learntWhen 7 = .ok (.imul, 1) := by decide +kernel
theorem dX0_learntWhen_8 : decode cX0_learntWhen 8 = .ok (.iload_n 2, 1) := by decide +kernel
theorem dX0_learntWhen_9 : decode cX0_learntWhen 9 = .ok (.iadd, 1) := by decide +kernel
theorem dX0_learntWhen_10 : decode cX0_learntWhen 10 = .ok (.iaload, 1) := by decide +kernel
theorem dX0_learntWhen_11 : decode cX0_learntWhen 11 = .ok (.ireturn, 1) := by decide +kernel
theorem dX0_knows_0 : decode cX0_knows 0 = .ok (.aload_n 0, 1) := by decide +kernel
theorem dX0_knows_1 : decode cX0_knows 1 = .ok (.getfield 25, 3) := by decide +kernel
theorem dX0_knows_4 : decode cX0_knows 4 = .ok (.iload_n 1, 1) := by decide +kernel
theorem dX0_knows_5 : decode cX0_knows 5 = .ok (.iaload, 1) := by decide +kernel
theorem dX0_knows_6 : decode cX0_knows 6 = .ok (.iload_n 2, 1) := by decide +kernel
theorem dX0_knows_7 : decode cX0_knows 7 = .ok (.ishr, 1) := by decide +kernel
theorem dX0_knows_8 : decode cX0_knows 8 = .ok (.iconst 1, 1) := by decide +kernel
theorem dX0_knows_9 : decode cX0_knows 9 = .ok (.iand, 1) := by decide +kernel
theorem dX0_knows_10 : decode cX0_knows 10 = .ok (.iconst 1, 1) := by decide +kernel
theorem dX0_knows_11 : decode cX0_knows 11 = .ok (.if_icmp .ne 7, 3) := by decide +kernel
theorem dX0_knows_14 : decode cX0_knows 14 = .ok (.iconst 1, 1) := by decide +kernel
theorem dX0_knows_15 : decode cX0_knows 15 = .ok (.goto 4, 3) := by decide +kernel
theorem dX0_knows_18 : decode cX0_knows 18 = .ok (.iconst 0, 1) := by decide +kernel
theorem dX0_knows_19 : decode cX0_knows 19 = .ok (.ireturn, 1) := by decide +kernel
theorem dX0_learn_0 : decode cX0_learn 0 = .ok (.aload_n 0, 1) := by decide +kernel
theorem dX0_learn_1 : decode cX0_learn 1 = .ok (.getfield 25, 3) := by decide +kernel
theorem dX0_learn_4 : decode cX0_learn 4 = .ok (.iload_n 1, 1) := by decide +kernel
theorem dX0_learn_5 : decode cX0_learn 5 = .ok (.dup2, 1) := by decide +kernel
theorem dX0_learn_6 : decode cX0_learn 6 = .ok (.iaload, 1) := by decide +kernel
theorem dX0_learn_7 : decode cX0_learn 7 = .ok (.iconst 1, 1) := by decide +kernel
theorem dX0_learn_8 : decode cX0_learn 8 = .ok (.iload_n 2, 1) := by decide +kernel
theorem dX0_learn_9 : decode cX0_learn 9 = .ok (.ishl, 1) := by decide +kernel
theorem dX0_learn_10 : decode cX0_learn 10 = .ok (.ior, 1) := by decide +kernel
theorem dX0_learn_11 : decode cX0_learn 11 = .ok (.iastore, 1) := by decide +kernel
theorem dX0_learn_12 : decode cX0_learn 12 = .ok (.aload_n 0, 1) := by decide +kernel
theorem dX0_learn_13 : decode cX0_learn 13 = .ok (.getfield 28, 3) := by decide +kernel
theorem dX0_learn_16 : decode cX0_learn 16 = .ok (.iload_n 1, 1) := by decide +kernel
theorem dX0_learn_17 : decode cX0_learn 17 = .ok (.bipush 8, 2) := by decide +kernel
theorem dX0_learn_19 : decode cX0_learn 19 = .ok (.imul, 1) := by decide +kernel
theorem dX0_learn_20 : decode cX0_learn 20 = .ok (.iload_n 2, 1) := by decide +kernel
theorem dX0_learn_21 : decode cX0_learn 21 = .ok (.iadd, 1) := by decide +kernel
theorem dX0_learn_22 : decode cX0_learn 22 = .ok (.aload_n 0, 1) := by decide +kernel
theorem dX0_learn_23 : decode cX0_learn 23 = .ok (.getfield 9, 3) := by decide +kernel
theorem dX0_learn_26 : decode cX0_learn 26 = .ok (.iastore, 1) := by decide +kernel
theorem dX0_learn_27 : decode cX0_learn 27 = .ok (.return_, 1) := by decide +kernel
theorem dX0_lose_0 : decode cX0_lose 0 = .ok (.aload_n 0, 1) := by decide +kernel
theorem dX0_lose_1 : decode cX0_lose 1 = .ok (.getfield 25, 3) := by decide +kernel
theorem dX0_lose_4 : decode cX0_lose 4 = .ok (.iload_n 1, 1) := by decide +kernel
theorem dX0_lose_5 : decode cX0_lose 5 = .ok (.dup2, 1) := by decide +kernel
theorem dX0_lose_6 : decode cX0_lose 6 = .ok (.iaload, 1) := by decide +kernel
theorem dX0_lose_7 : decode cX0_lose 7 = .ok (.iconst 1, 1) := by decide +kernel
theorem dX0_lose_8 : decode cX0_lose 8 = .ok (.iload_n 2, 1) := by decide +kernel
theorem dX0_lose_9 : decode cX0_lose 9 = .ok (.ishl, 1) := by decide +kernel
theorem dX0_lose_10 : decode cX0_lose 10 = .ok (.iconst (-1), 1) := by decide +kernel
theorem dX0_lose_11 : decode cX0_lose 11 = .ok (.ixor, 1) := by decide +kernel
theorem dX0_lose_12 : decode cX0_lose 12 = .ok (.iand, 1) := by decide +kernel
theorem dX0_lose_13 : decode cX0_lose 13 = .ok (.iastore, 1) := by decide +kernel
theorem dX0_lose_14 : decode cX0_lose 14 = .ok (.return_, 1) := by decide +kernel
set_option maxRecDepth 20000 in
theorem ggX0_knownAtTerrace_X3_treeAt : GoodIn wsX0_knownAtTerrace wsX3_treeAt := goodIn_r _ [4] (by decide +kernel) (by decide +kernel)
set_option maxRecDepth 20000 in
theorem gX0_knownAtTerrace_X3_treeAt_n43 : GoodIn wsX0_knownAtTerrace (wsX3_treeAt) := ggX0_knownAtTerrace_X3_treeAt
theorem dX0_knownAtTerrace_0 : decode cX0_knownAtTerrace 0 = .ok (.aload_n 0, 1) := by decide +kernel
theorem dX0_knownAtTerrace_1 : decode cX0_knownAtTerrace 1 = .ok (.getfield 25, 3) := by decide +kernel
theorem dX0_knownAtTerrace_4 : decode cX0_knownAtTerrace 4 = .ok (.iconst 5, 1) := by decide +kernel
theorem dX0_knownAtTerrace_5 : decode cX0_knownAtTerrace 5 = .ok (.iconst 0, 1) := by decide +kernel
theorem dX0_knownAtTerrace_6 : decode cX0_knownAtTerrace 6 = .ok (.invokestatic 43, 3) := by decide +kernel
theorem dX0_knownAtTerrace_9 : decode cX0_knownAtTerrace 9 = .ok (.iaload, 1) := by decide +kernel
theorem dX0_knownAtTerrace_10 : decode cX0_knownAtTerrace 10 = .ok (.aload_n 0, 1) := by decide +kernel
theorem dX0_knownAtTerrace_11 : decode cX0_knownAtTerrace 11 = .ok (.getfield 25, 3) := by decide +kernel
theorem dX0_knownAtTerrace_14 : decode cX0_knownAtTerrace 14 = .ok (.iconst 5, 1) := by decide +kernel
theorem dX0_knownAtTerrace_15 : decode cX0_knownAtTerrace 15 = .ok (.iconst 1, 1) := by decide +kernel
theorem dX0_knownAtTerrace_16 : decode cX0_knownAtTerrace 16 = .ok (.invokestatic 43, 3) := by decide +kernel
theorem dX0_knownAtTerrace_19 : decode cX0_knownAtTerrace 19 = .ok (.iaload, 1) := by decide +kernel
theorem dX0_knownAtTerrace_20 : decode cX0_knownAtTerrace 20 = .ok (.ior, 1) := by decide +kernel
theorem dX0_knownAtTerrace_21 : decode cX0_knownAtTerrace 21 = .ok (.ireturn, 1) := by decide +kernel
theorem dX0_knownByAny_0 : decode cX0_knownByAny 0 = .ok (.iconst 0, 1) := by decide +kernel
theorem dX0_knownByAny_1 : decode cX0_knownByAny 1 = .ok (.istore_n 1, 1) := by decide +kernel
theorem dX0_knownByAny_2 : decode cX0_knownByAny 2 = .ok (.iconst 0, 1) := by decide +kernel
theorem dX0_knownByAny_3 : decode cX0_knownByAny 3 = .ok (.istore_n 2, 1) := by decide +kernel
theorem dX0_knownByAny_4 : decode cX0_knownByAny 4 = .ok (.iload_n 2, 1) := by decide +kernel
theorem dX0_knownByAny_5 : decode cX0_knownByAny 5 = .ok (.bipush 12, 2) := by decide +kernel
theorem dX0_knownByAny_7 : decode cX0_knownByAny 7 = .ok (.if_icmp .ge 18, 3) := by decide +kernel
theorem dX0_knownByAny_10 : decode cX0_knownByAny 10 = .ok (.iload_n 1, 1) := by decide +kernel
theorem dX0_knownByAny_11 : decode cX0_knownByAny 11 = .ok (.aload_n 0, 1) := by decide +kernel
theorem dX0_knownByAny_12 : decode cX0_knownByAny 12 = .ok (.getfield 25, 3) := by decide +kernel
theorem dX0_knownByAny_15 : decode cX0_knownByAny 15 = .ok (.iload_n 2, 1) := by decide +kernel
theorem dX0_knownByAny_16 : decode cX0_knownByAny 16 = .ok (.iaload, 1) := by decide +kernel
theorem dX0_knownByAny_17 : decode cX0_knownByAny 17 = .ok (.ior, 1) := by decide +kernel
theorem dX0_knownByAny_18 : decode cX0_knownByAny 18 = .ok (.istore_n 1, 1) := by decide +kernel
theorem dX0_knownByAny_19 : decode cX0_knownByAny 19 = .ok (.iinc 2 1, 3) := by decide +kernel
theorem dX0_knownByAny_22 : decode cX0_knownByAny 22 = .ok (.goto (-18), 3) := by decide +kernel
theorem dX0_knownByAny_25 : decode cX0_knownByAny 25 = .ok (.iload_n 1, 1) := by decide +kernel
theorem dX0_knownByAny_26 : decode cX0_knownByAny 26 = .ok (.ireturn, 1) := by decide +kernel
set_option maxRecDepth 20000 in
theorem ggX0_knownInAll_J6_bitCount_0f7a4 : GoodIn wsX0_knownInAll wsJ6_bitCount_0f7a4 := goodIn_r _ [5, 6, 7, 8] (by decide +kernel) (by decide +kernel)
set_option maxRecDepth 20000 in
theorem gX0_knownInAll_J6_bitCount_0f7a4 : GoodIn wsX0_knownInAll (va_wsS RX0 47 yJ6_bitCount_0f7a4 wsJ6_bitCount_0f7a4) := goodIn_app (goodIn_of _ (by decide +kernel)) ggX0_knownInAll_J6_bitCount_0f7a4
theorem dX0_knownInAll_0 : decode cX0_knownInAll 0 = .ok (.iconst 0, 1) := by decide +kernel
theorem dX0_knownInAll_1 : decode cX0_knownInAll 1 = .ok (.istore_n 1, 1) := by decide +kernel
theorem dX0_knownInAll_2 : decode cX0_knownInAll 2 = .ok (.iconst 0, 1) := by decide +kernel
theorem dX0_knownInAll_3 : decode cX0_knownInAll 3 = .ok (.istore_n 2, 1) := by decide +kernel
theorem dX0_knownInAll_4 : decode cX0_knownInAll 4 = .ok (.iload_n 2, 1) := by decide +kernel
theorem dX0_knownInAll_5 : decode cX0_knownInAll 5 = .ok (.bipush 12, 2) := by decide +kernel
theorem dX0_knownInAll_7 : decode cX0_knownInAll 7 = .ok (.if_icmp .ge 21, 3) := by decide +kernel
theorem dX0_knownInAll_10 : decode cX0_knownInAll 10 = .ok (.iload_n 1, 1) := by decide +kernel
theorem dX0_knownInAll_11 : decode cX0_knownInAll 11 = .ok (.aload_n 0, 1) := by decide +kernel
theorem dX0_knownInAll_12 : decode cX0_knownInAll 12 = .ok (.getfield 25, 3) := by decide +kernel
theorem dX0_knownInAll_15 : decode cX0_knownInAll 15 = .ok (.iload_n 2, 1) := by decide +kernel
theorem dX0_knownInAll_16 : decode cX0_knownInAll 16 = .ok (.iaload, 1) := by decide +kernel
theorem dX0_knownInAll_17 : decode cX0_knownInAll 17 = .ok (.invokestatic 47, 3) := by decide +kernel
theorem dX0_knownInAll_20 : decode cX0_knownInAll 20 = .ok (.iadd, 1) := by decide +kernel
theorem dX0_knownInAll_21 : decode cX0_knownInAll 21 = .ok (.istore_n 1, 1) := by decide +kernel
theorem dX0_knownInAll_22 : decode cX0_knownInAll 22 = .ok (.iinc 2 1, 3) := by decide +kernel
theorem dX0_knownInAll_25 : decode cX0_knownInAll 25 = .ok (.goto (-21), 3) := by decide +kernel
theorem dX0_knownInAll_28 : decode cX0_knownInAll 28 = .ok (.iload_n 1, 1) := by decide +kernel
theorem dX0_knownInAll_29 : decode cX0_knownInAll 29 = .ok (.ireturn, 1) := by decide +kernel
set_option maxRecDepth 20000 in
theorem ggX0_knowers_X0_knows : GoodIn wsX0_knowers wsX0_knows := goodIn_r _ [5, 6, 7, 8, 9, 10, 11, 12] (by decide +kernel) (by decide +kernel)
set_option maxRecDepth 20000 in
theorem gX0_knowers_X0_knows : GoodIn wsX0_knowers (wsV RX0 53 RX0 yX0_knows wsX0_knows) := goodIn_app (goodIn_of _ (by decide +kernel)) ggX0_knowers_X0_knows
theorem dX0_knowers_0 : decode cX0_knowers 0 = .ok (.iconst 0, 1) := by decide +kernel
theorem dX0_knowers_1 : decode cX0_knowers 1 = .ok (.istore_n 2, 1) := by decide +kernel
theorem dX0_knowers_2 : decode cX0_knowers 2 = .ok (.iconst 0, 1) := by decide +kernel
theorem dX0_knowers_3 : decode cX0_knowers 3 = .ok (.istore_n 3, 1) := by decide +kernel
theorem dX0_knowers_4 : decode cX0_knowers 4 = .ok (.iload_n 3, 1) := by decide +kernel
theorem dX0_knowers_5 : decode cX0_knowers 5 = .ok (.bipush 12, 2) := by decide +kernel
theorem dX0_knowers_7 : decode cX0_knowers 7 = .ok (.if_icmp .ge 21, 3) := by decide +kernel
theorem dX0_knowers_10 : decode cX0_knowers 10 = .ok (.aload_n 0, 1) := by decide +kernel
theorem dX0_knowers_11 : decode cX0_knowers 11 = .ok (.iload_n 3, 1) := by decide +kernel
theorem dX0_knowers_12 : decode cX0_knowers 12 = .ok (.iload_n 1, 1) := by decide +kernel
theorem dX0_knowers_13 : decode cX0_knowers 13 = .ok (.invokevirtual 53, 3) := by decide +kernel
theorem dX0_knowers_16 : decode cX0_knowers 16 = .ok (.ifCond .eq 6, 3) := by decide +kernel
theorem dX0_knowers_19 : decode cX0_knowers 19 = .ok (.iinc 2 1, 3) := by decide +kernel
theorem dX0_knowers_22 : decode cX0_knowers 22 = .ok (.iinc 3 1, 3) := by decide +kernel
theorem dX0_knowers_25 : decode cX0_knowers 25 = .ok (.goto (-21), 3) := by decide +kernel
theorem dX0_knowers_28 : decode cX0_knowers 28 = .ok (.iload_n 2, 1) := by decide +kernel
theorem dX0_knowers_29 : decode cX0_knowers 29 = .ok (.ireturn, 1) := by decide +kernel
theorem dX0_treesThatKnow_0 : decode cX0_treesThatKnow 0 = .ok (.iconst 0, 1) := by decide +kernel
theorem dX0_treesThatKnow_1 : decode cX0_treesThatKnow 1 = .ok (.istore_n 1, 1) := by decide +kernel
theorem dX0_treesThatKnow_2 : decode cX0_treesThatKnow 2 = .ok (.iconst 0, 1) := by decide +kernel
theorem dX0_treesThatKnow_3 : decode cX0_treesThatKnow 3 = .ok (.istore_n 2, 1) := by decide +kernel
theorem dX0_treesThatKnow_4 : decode cX0_treesThatKnow 4 = .ok (.iload_n 2, 1) := by decide +kernel
theorem dX0_treesThatKnow_5 : decode cX0_treesThatKnow 5 = .ok (.bipush 12, 2) := by decide +kernel
theorem dX0_treesThatKnow_7 : decode cX0_treesThatKnow 7 = .ok (.if_icmp .ge 21, 3) := by decide +kernel
theorem dX0_treesThatKnow_10 : decode cX0_treesThatKnow 10 = .ok (.aload_n 0, 1) := by decide +kernel
theorem dX0_treesThatKnow_11 : decode cX0_treesThatKnow 11 = .ok (.getfield 25, 3) := by decide +kernel
theorem dX0_treesThatKnow_14 : decode cX0_treesThatKnow 14 = .ok (.iload_n 2, 1) := by decide +kernel
theorem dX0_treesThatKnow_15 : decode cX0_treesThatKnow 15 = .ok (.iaload, 1) := by decide +kernel
theorem dX0_treesThatKnow_16 : decode cX0_treesThatKnow 16 = .ok (.ifCond .eq 6, 3) := by decide +kernel
theorem dX0_treesThatKnow_19 : decode cX0_treesThatKnow 19 = .ok (.iinc 1 1, 3) := by decide +kernel
theorem dX0_treesThatKnow_22 : decode cX0_treesThatKnow 22 = .ok (.iinc 2 1, 3) := by decide +kernel
theorem dX0_treesThatKnow_25 : decode cX0_treesThatKnow 25 = .ok (.goto (-21), 3) := by decide +kernel
theorem dX0_treesThatKnow_28 : decode cX0_treesThatKnow 28 = .ok (.iload_n 1, 1) := by decide +kernel
theorem dX0_treesThatKnow_29 : decode cX0_treesThatKnow 29 = .ok (.ireturn, 1) := by decide +kernel
theorem dX0_isIntroduced_0 : decode cX0_isIntroduced 0 = .ok (.aload_n 0, 1) := by decide +kernel
theorem dX0_isIntroduced_1 : decode cX0_isIntroduced 1 = .ok (.getfield 15, 3) := by decide +kernel
theorem dX0_isIntroduced_4 : decode cX0_isIntroduced 4 = .ok (.iload_n 1, 1) := by decide +kernel
theorem dX0_isIntroduced_5 : decode cX0_isIntroduced 5 = .ok (.ishr, 1) := by decide +kernel
theorem dX0_isIntroduced_6 : decode cX0_isIntroduced 6 = .ok (.iconst 1, 1) := by decide +kernel
theorem dX0_isIntroduced_7 : decode cX0_isIntroduced 7 = .ok (.iand, 1) := by decide +kernel
theorem dX0_isIntroduced_8 : decode cX0_isIntroduced 8 = .ok (.iconst 1, 1) := by decide +kernel
theorem dX0_isIntroduced_9 : decode cX0_isIntroduced 9 = .ok (.if_icmp .ne 7, 3) := by decide +kernel
theorem dX0_isIntroduced_12 : decode cX0_isIntroduced 12 = .ok (.iconst 1, 1) := by decide +kernel
theorem dX0_isIntroduced_13 : decode cX0_isIntroduced 13 = .ok (.goto 4, 3) := by decide +kernel
theorem dX0_isIntroduced_16 : decode cX0_isIntroduced 16 = .ok (.iconst 0, 1) := by decide +kernel
theorem dX0_isIntroduced_17 : decode cX0_isIntroduced 17 = .ok (.ireturn, 1) := by decide +kernel
theorem dX0_setIntroduced_0 : decode cX0_setIntroduced 0 = .ok (.aload_n 0, 1) := by decide +kernel
theorem dX0_setIntroduced_1 : decode cX0_setIntroduced 1 = .ok (.iload_n 2, 1) := by decide +kernel
theorem dX0_setIntroduced_2 : decode cX0_setIntroduced 2 = .ok (.ifCond .eq 14, 3) := by decide +kernel
theorem dX0_setIntroduced_5 : decode cX0_setIntroduced 5 = .ok (.aload_n 0, 1) := by decide +kernel
theorem dX0_setIntroduced_6 : decode cX0_setIntroduced 6 = .ok (.getfield 15, 3) := by decide +kernel
theorem dX0_setIntroduced_9 : decode cX0_setIntroduced 9 = .ok (.iconst 1, 1) := by decide +kernel
theorem dX0_setIntroduced_10 : decode cX0_setIntroduced 10 = .ok (.iload_n 1, 1) := by decide +kernel
theorem dX0_setIntroduced_11 : decode cX0_setIntroduced 11 = .ok (.ishl, 1) := by decide +kernel
theorem dX0_setIntroduced_12 : decode cX0_setIntroduced 12 = .ok (.ior, 1) := by decide +kernel
theorem dX0_setIntroduced_13 : decode cX0_setIntroduced 13 = .ok (.goto 13, 3) := by decide +kernel
theorem dX0_setIntroduced_16 : decode cX0_setIntroduced 16 = .ok (.aload_n 0, 1) := by decide +kernel
theorem dX0_setIntroduced_17 : decode cX0_setIntroduced 17 = .ok (.getfield 15, 3) := by decide +kernel
theorem dX0_setIntroduced_20 : decode cX0_setIntroduced 20 = .ok (.iconst 1, 1) := by decide +kernel
theorem dX0_setIntroduced_21 : decode cX0_setIntroduced 21 = .ok (.iload_n 1, 1) := by decide +kernel
theorem dX0_setIntroduced_22 : decode cX0_setIntroduced 22 = .ok (.ishl, 1) := by decide +kernel
theorem dX0_setIntroduced_23 : decode cX0_setIntroduced 23 = .ok (.iconst (-1), 1) := by decide +kernel
theorem dX0_setIntroduced_24 : decode cX0_setIntroduced 24 = .ok (.ixor, 1) := by decide +kernel
theorem dX0_setIntroduced_25 : decode cX0_setIntroduced 25 = .ok (.iand, 1) := by decide +kernel
theorem dX0_setIntroduced_26 : decode cX0_setIntroduced 26 = .ok (.putfield 15, 3) := by decide +kernel
theorem dX0_setIntroduced_29 : decode cX0_setIntroduced 29 = .ok (.return_, 1) := by decide +kernel
theorem dX0_agesTogether_0 : decode cX0_agesTogether 0 = .ok (.iconst 0, 1) := by decide +kernel
theorem dX0_agesTogether_1 : decode cX0_agesTogether 1 = .ok (.istore_n 1, 1) := by decide +kernel
theorem dX0_agesTogether_2 : decode cX0_agesTogether 2 = .ok (.iconst 0, 1) := by decide +kernel
theorem dX0_agesTogether_3 : decode cX0_agesTogether 3 = .ok (.istore_n 2, 1) := by decide +kernel
theorem dX0_agesTogether_4 : decode cX0_agesTogether 4 = .ok (.iload_n 2, 1) := by decide +kernel
theorem dX0_agesTogether_5 : decode cX0_agesTogether 5 = .ok (.bipush 12, 2) := by decide +kernel
theorem dX0_agesTogether_7 : decode cX0_agesTogether 7 = .ok (.if_icmp .ge 18, 3) := by decide +kernel
theorem dX0_agesTogether_10 : decode cX0_agesTogether 10 = .ok (.iload_n 1, 1) := by decide +kernel
theorem dX0_agesTogether_11 : decode cX0_agesTogether 11 = .ok (.aload_n 0, 1) := by decide +kernel
theorem dX0_agesTogether_12 : decode cX0_agesTogether 12 = .ok (.getfield 22, 3) := by decide +kernel
theorem dX0_agesTogether_15 : decode cX0_agesTogether 15 = .ok (.iload_n 2, 1) := by decide +kernel
theorem dX0_agesTogether_16 : decode cX0_agesTogether 16 = .ok (.iaload, 1) := by decide +kernel
theorem dX0_agesTogether_17 : decode cX0_agesTogether 17 = .ok (.iadd, 1) := by decide +kernel
theorem dX0_agesTogether_18 : decode cX0_agesTogether 18 = .ok (.istore_n 1, 1) := by decide +kernel
theorem dX0_agesTogether_19 : decode cX0_agesTogether 19 = .ok (.iinc 2 1, 3) := by decide +kernel
theorem dX0_agesTogether_22 : decode cX0_agesTogether 22 = .ok (.goto (-18), 3) := by decide +kernel
theorem dX0_agesTogether_25 : decode cX0_agesTogether 25 = .ok (.iload_n 1, 1) := by decide +kernel
theorem dX0_agesTogether_26 : decode cX0_agesTogether 26 = .ok (.ireturn, 1) := by decide +kernel
theorem dX0_noLimes_0 : decode cX0_noLimes 0 = .ok (.iconst 0, 1) := by decide +kernel
theorem dX0_noLimes_1 : decode cX0_noLimes 1 = .ok (.istore_n 1, 1) := by decide +kernel
theorem dX0_noLimes_2 : decode cX0_noLimes 2 = .ok (.iconst 0, 1) := by decide +kernel
theorem dX0_noLimes_3 : decode cX0_noLimes 3 = .ok (.istore_n 2, 1) := by decide +kernel
theorem dX0_noLimes_4 : decode cX0_noLimes 4 = .ok (.iload_n 2, 1) := by decide +kernel
theorem dX0_noLimes_5 : decode cX0_noLimes 5 = .ok (.bipush 12, 2) := by decide +kernel
theorem dX0_noLimes_7 : decode cX0_noLimes 7 = .ok (.if_icmp .ge 21, 3) := by decide +kernel
theorem dX0_noLimes_10 : decode cX0_noLimes 10 = .ok (.aload_n 0, 1) := by decide +kernel
theorem dX0_noLimes_11 : decode cX0_noLimes 11 = .ok (.getfield 18, 3) := by decide +kernel
theorem dX0_noLimes_14 : decode cX0_noLimes 14 = .ok (.iload_n 2, 1) := by decide +kernel
theorem dX0_noLimes_15 : decode cX0_noLimes 15 = .ok (.iaload, 1) := by decide +kernel
theorem dX0_noLimes_16 : decode cX0_noLimes 16 = .ok (.ifCond .eq 6, 3) := by decide +kernel
theorem dX0_noLimes_19 : decode cX0_noLimes 19 = .ok (.iinc 1 1, 3) := by decide +kernel
theorem dX0_noLimes_22 : decode cX0_noLimes 22 = .ok (.iinc 2 1, 3) := by decide +kernel
theorem dX0_noLimes_25 : decode cX0_noLimes 25 = .ok (.goto (-21), 3) := by decide +kernel
theorem dX0_noLimes_28 : decode cX0_noLimes 28 = .ok (.iload_n 1, 1) := by decide +kernel
theorem dX0_noLimes_29 : decode cX0_noLimes 29 = .ok (.ireturn, 1) := by decide +kernel
theorem dX0_leansOf_0 : decode cX0_leansOf 0 = .ok (.iconst 3, 1) := by decide +kernel
theorem dX0_leansOf_1 : decode cX0_leansOf 1 = .ok (.istore_n 2, 1) := by decide +kernel
theorem dX0_leansOf_2 : decode cX0_leansOf 2 = .ok (.iload_n 2, 1) := by decide +kernel
theorem dX0_leansOf_3 : decode cX0_leansOf 3 = .ok (.iconst 4, 1) := by decide +kernel
theorem dX0_leansOf_4 : decode cX0_leansOf 4 = .ok (.iadd, 1) := by decide +kernel
theorem dX0_leansOf_5 : decode cX0_leansOf 5 = .ok (.istore_n 3, 1) := by decide +kernel
theorem dX0_leansOf_6 : decode cX0_leansOf 6 = .ok (.iload_n 2, 1) := by decide +kernel
theorem dX0_leansOf_7 : decode cX0_leansOf 7 = .ok (.iconst 0, 1) := by decide +kernel
theorem dX0_leansOf_8 : decode cX0_leansOf 8 = .ok (.bipush 10, 2) := by decide +kernel
theorem dX0_leansOf_10 : decode cX0_leansOf 10 = .ok (.aload_n 0, 1) := by decide +kernel
theorem dX0_leansOf_11 : decode cX0_leansOf 11 = .ok (.getfield 22, 3) := by decide +kernel
theorem dX0_leansOf_14 : decode cX0_leansOf 14 = .ok (.iload_n 1, 1) := by decide +kernel
theorem dX0_leansOf_15 : decode cX0_leansOf 15 = .ok (.iaload, 1) := by decide +kernel
theorem dX0_leansOf_16 : decode cX0_leansOf 16 = .ok (.isub, 1) := by decide +kernel
theorem dX0_leansOf_17 : decode cX0_leansOf 17 = .ok (.invokestatic 57, 3) := by decide +kernel
theorem dX0_leansOf_20 : decode cX0_leansOf 20 = .ok (.iadd, 1) := by decide +kernel
theorem dX0_leansOf_21 : decode cX0_leansOf 21 = .ok (.istore 4, 2) := by decide +kernel
theorem dX0_leansOf_23 : decode cX0_leansOf 23 = .ok (.aload_n 0, 1) := by decide +kernel
theorem dX0_leansOf_24 : decode cX0_leansOf 24 = .ok (.getfield 18, 3) := by decide +kernel
theorem dX0_leansOf_27 : decode cX0_leansOf 27 = .ok (.iload_n 1, 1) := by decide +kernel
theorem dX0_leansOf_28 : decode cX0_leansOf 28 = .ok (.iaload, 1) := by decide +kernel
theorem dX0_leansOf_29 : decode cX0_leansOf 29 = .ok (.tableswitch 53 1 5 #[35, 37, 40, 44, 48], 35) := by decide +kernel
theorem dX0_leansOf_64 : decode cX0_leansOf 64 = .ok (.iload_n 3, 1) := by decide +kernel
theorem dX0_leansOf_65 : decode cX0_leansOf 65 = .ok (.ireturn, 1) := by decide +kernel
theorem dX0_leansOf_66 : decode cX0_leansOf 66 = .ok (.iload 4, 2) := by decide +kernel
theorem dX0_leansOf_68 : decode cX0_leansOf 68 = .ok (.ireturn, 1) := by decide +kernel
theorem dX0_leansOf_69 : decode cX0_leansOf 69 = .ok (.sipush 999, 3) := by decide +kernel
theorem dX0_leansOf_72 : decode cX0_leansOf 72 = .ok (.ireturn, 1) := by decide +kernel
theorem dX0_leansOf_73 : decode cX0_leansOf 73 = .ok (.iconst 2, 1) := by decide +kernel
theorem dX0_leansOf_74 : decode cX0_leansOf 74 = .ok (.iload_n 3, 1) := by decide +kernel
theorem dX0_leansOf_75 : decode cX0_leansOf 75 = .ok (.imul, 1) := by decide +kernel
theorem dX0_leansOf_76 : decode cX0_leansOf 76 = .ok (.ireturn, 1) := by decide +kernel
theorem dX0_leansOf_77 : decode cX0_leansOf 77 = .ok (.iload 4, 2) := by decide +kernel
theorem dX0_leansOf_79 : decode cX0_leansOf 79 = .ok (.iconst 2, 1) := by decide +kernel
theorem dX0_leansOf_80 : decode cX0_leansOf 80 = .ok (.isub, 1) := by decide +kernel
theorem dX0_leansOf_81 : decode cX0_leansOf 81 = .ok (.ireturn, 1) := by decide +kernel
theorem dX0_leansOf_82 : decode cX0_leansOf 82 = .ok (.iload_n 2, 1) := by decide +kernel
theorem dX0_leansOf_83 : decode cX0_leansOf 83 = .ok (.ireturn, 1) := by decide +kernel
theorem dX0_nodsOf_0 : decode cX0_nodsOf 0 = .ok (.iconst 1, 1) := by decide +kernel
theorem dX0_nodsOf_1 : decode cX0_nodsOf 1 = .ok (.istore_n 2, 1) := by decide +kernel
theorem dX0_nodsOf_2 : decode cX0_nodsOf 2 = .ok (.aload_n 0, 1) := by decide +kernel
theorem dX0_nodsOf_3 : decode cX0_nodsOf 3 = .ok (.getfield 18, 3) := by decide +kernel
theorem dX0_nodsOf_6 : decode cX0_nodsOf 6 = .ok (.iload_n 1, 1) := by decide +kernel
theorem dX0_nodsOf_7 : decode cX0_nodsOf 7 = .ok (.iaload, 1) := by decide +kernel
theorem dX0_nodsOf_8 : decode cX0_nodsOf 8 = .ok (.tableswitch 63 1 5 #[36, 40, 59, 36, 40], 36) := by decide +kernel
theorem dX0_nodsOf_44 : decode cX0_nodsOf 44 = .ok (.iload_n 2, 1) := by decide +kernel
theorem dX0_nodsOf_45 : decode cX0_nodsOf 45 = .ok (.iconst 1, 1) := by decide +kernel
theorem dX0_nodsOf_46 : decode cX0_nodsOf 46 = .ok (.iadd, 1) := by decide +kernel
theorem dX0_nodsOf_47 : decode cX0_nodsOf 47 = .ok (.ireturn, 1) := by decide +kernel
theorem dX0_nodsOf_48 : decode cX0_nodsOf 48 = .ok (.aload_n 0, 1) := by decide +kernel
theorem dX0_nodsOf_49 : decode cX0_nodsOf 49 = .ok (.getfield 22, 3) := by decide +kernel
theorem dX0_nodsOf_52 : decode cX0_nodsOf 52 = .ok (.iload_n 1, 1) := by decide +kernel
theorem dX0_nodsOf_53 : decode cX0_nodsOf 53 = .ok (.iaload, 1) := by decide +kernel
theorem dX0_nodsOf_54 : decode cX0_nodsOf 54 = .ok (.bipush 20, 2) := by decide +kernel
theorem dX0_nodsOf_56 : decode cX0_nodsOf 56 = .ok (.if_icmp .ge 9, 3) := by decide +kernel
theorem dX0_nodsOf_59 : decode cX0_nodsOf 59 = .ok (.iconst 2, 1) := by decide +kernel
theorem dX0_nodsOf_60 : decode cX0_nodsOf 60 = .ok (.iload_n 2, 1) := by decide +kernel
theorem dX0_nodsOf_61 : decode cX0_nodsOf 61 = .ok (.imul, 1) := by decide +kernel
theorem dX0_nodsOf_62 : decode cX0_nodsOf 62 = .ok (.goto 4, 3) := by decide +kernel
theorem dX0_nodsOf_65 : decode cX0_nodsOf 65 = .ok (.iload_n 2, 1) := by decide +kernel
theorem dX0_nodsOf_66 : decode cX0_nodsOf 66 = .ok (.ireturn, 1) := by decide +kernel
theorem dX0_nodsOf_67 : decode cX0_nodsOf 67 = .ok (.sipush 999, 3) := by decide +kernel
theorem dX0_nodsOf_70 : decode cX0_nodsOf 70 = .ok (.ireturn, 1) := by decide +kernel
theorem dX0_nodsOf_71 : decode cX0_nodsOf 71 = .ok (.iload_n 2, 1) := by decide +kernel
theorem dX0_nodsOf_72 : decode cX0_nodsOf 72 = .ok (.ireturn, 1) := by decide +kernel
theorem dX0_hears_0 : decode cX0_hears 0 = .ok (.aload_n 0, 1) := by decide +kernel
theorem dX0_hears_1 : decode cX0_hears 1 = .ok (.getfield 18, 3) := by decide +kernel
theorem dX0_hears_4 : decode cX0_hears 4 = .ok (.iload_n 1, 1) := by decide +kernel
theorem dX0_hears_5 : decode cX0_hears 5 = .ok (.iaload, 1) := by decide +kernel
theorem dX0_hears_6 : decode cX0_hears 6 = .ok (.tableswitch 87 1 5 #[34, 49, 85, 34, 65], 34) := by decide +kernel
theorem dX0_hears_40 : decode cX0_hears 40 = .ok (.aload_n 0, 1) := by decide +kernel
theorem dX0_hears_41 : decode cX0_hears 41 = .ok (.getfield 9, 3) := by decide +kernel
theorem dX0_hears_44 : decode cX0_hears 44 = .ok (.iconst 3, 1) := by decide +kernel
theorem dX0_hears_45 : decode cX0_hears 45 = .ok (.irem, 1) := by decide +kernel
theorem dX0_hears_46 : decode cX0_hears 46 = .ok (.ifCond .eq 7, 3) := by decide +kernel
theorem dX0_hears_49 : decode cX0_hears 49 = .ok (.iconst 1, 1) := by decide +kernel
theorem dX0_hears_50 : decode cX0_hears 50 = .ok (.goto 4, 3) := by decide +kernel
theorem dX0_hears_53 : decode cX0_hears 53 = .ok (.iconst 0, 1) := by decide +kernel
theorem dX0_hears_54 : decode cX0_hears 54 = .ok (.ireturn, 1) := by decide +kernel
theorem dX0_hears_55 : decode cX0_hears 55 = .ok (.aload_n 0, 1) := by decide +kernel
theorem dX0_hears_56 : decode cX0_hears 56 = .ok (.getfield 22, 3) := by decide +kernel
theorem dX0_hears_59 : decode cX0_hears 59 = .ok (.iload_n 1, 1) := by decide +kernel
theorem dX0_hears_60 : decode cX0_hears 60 = .ok (.iaload, 1) := by decide +kernel
theorem dX0_hears_61 : decode cX0_hears 61 = .ok (.iconst 5, 1) := by decide +kernel
theorem dX0_hears_62 : decode cX0_hears 62 = .ok (.if_icmp .lt 7, 3) := by decide +kernel
theorem dX0_hears_65 : decode cX0_hears 65 = .ok (.iconst 1, 1) := by decide +kernel
theorem dX0_hears_66 : decode cX0_hears 66 = .ok (.goto 4, 3) := by decide +kernel
theorem dX0_hears_69 : decode cX0_hears 69 = .ok (.iconst 0, 1) := by decide +kernel
theorem dX0_hears_70 : decode cX0_hears 70 = .ok (.ireturn, 1) := by decide +kernel
theorem dX0_hears_71 : decode cX0_hears 71 = .ok (.iload_n 2, 1) := by decide +kernel
theorem dX0_hears_72 : decode cX0_hears 72 = .ok (.ifCond .ne 13, 3) := by decide +kernel
theorem dX0_hears_75 : decode cX0_hears 75 = .ok (.aload_n 0, 1) := by decide +kernel
theorem dX0_hears_76 : decode cX0_hears 76 = .ok (.getfield 22, 3) := by decide +kernel
theorem dX0_hears_79 : decode cX0_hears 79 = .ok (.iload_n 1, 1) := by decide +kernel
theorem dX0_hears_80 : decode cX0_hears 80 = .ok (.iaload, 1) := by decide +kernel
theorem dX0_hears_81 : decode cX0_hears 81 = .ok (.iconst 5, 1) := by decide +kernel
theorem dX0_hears_82 : decode cX0_hears 82 = .ok (.if_icmp .lt 7, 3) := by decide +kernel
theorem dX0_hears_85 : decode cX0_hears 85 = .ok (.iconst 1, 1) := by decide +kernel
theorem dX0_hears_86 : decode cX0_hears 86 = .ok (.goto 4, 3) := by decide +kernel
theorem dX0_hears_89 : decode cX0_hears 89 = .ok (.iconst 0, 1) := by decide +kernel
theorem dX0_hears_90 : decode cX0_hears 90 = .ok (.ireturn, 1) := by decide +kernel
theorem dX0_hears_91 : decode cX0_hears 91 = .ok (.iconst 0, 1) := by decide +kernel
theorem dX0_hears_92 : decode cX0_hears 92 = .ok (.ireturn, 1) := by decide +kernel
theorem dX0_hears_93 : decode cX0_hears 93 = .ok (.iconst 1, 1) := by decide +kernel
theorem dX0_hears_94 : decode cX0_hears 94 = .ok (.ireturn, 1) := by decide +kernel
set_option maxRecDepth 20000 in
theorem ggX0_passYears_X0_passYear : GoodIn wsX0_passYears wsX0_passYear := goodIn_r _ [5, 6, 7, 8, 9, 10, 11, 12, 13, 14, 4, 15, 16, 17, 18, 19, 20, 21, 22, 23, 24, 25, 26, 27, 28, 29, 30, 31, 32, 33, 34, 35, 36, 37, 38, 39, 40, 41, 42, 43, 44, 45, 46, 47, 48, 49, 50, 51, 52, 53, 54, 55, 56] (by decide +kernel) (by decide +kernel)
set_option maxRecDepth 20000 in
theorem gX0_passYears_X0_passYear : GoodIn wsX0_passYears (wsV RX0 62 RX0 yX0_passYear wsX0_passYear) := goodIn_app (goodIn_of _ (by decide +kernel)) ggX0_passYears_X0_passYear
theorem dX0_passYears_0 : decode cX0_passYears 0 = .ok (.iconst 0, 1) := by decide +kernel
theorem dX0_passYears_1 : decode cX0_passYears 1 = .ok (.istore_n 2, 1) := by decide +kernel
theorem dX0_passYears_2 : decode cX0_passYears 2 = .ok (.iload_n 2, 1) := by decide +kernel
theorem dX0_passYears_3 : decode cX0_passYears 3 = .ok (.iload_n 1, 1) := by decide +kernel
theorem dX0_passYears_4 : decode cX0_passYears 4 = .ok (.if_icmp .ge 16, 3) := by decide +kernel
theorem dX0_passYears_7 : decode cX0_passYears 7 = .ok (.aload_n 0, 1) := by decide +kernel
theorem dX0_passYears_8 : decode cX0_passYears 8 = .ok (.sipush 255, 3) := by decide +kernel
theorem dX0_passYears_11 : decode cX0_passYears 11 = .ok (.invokevirtual 62, 3) := by decide +kernel
theorem dX0_passYears_14 : decode cX0_passYears 14 = .ok (.iinc 2 1, 3) := by decide +kernel
theorem dX0_passYears_17 : decode cX0_passYears 17 = .ok (.goto (-15), 3) := by decide +kernel
theorem dX0_passYears_20 : decode cX0_passYears 20 = .ok (.return_, 1) := by decide +kernel
set_option maxRecDepth 20000 in
theorem ggX0_passYear_X0_listen : GoodIn wsX0_passYear wsX0_listen := goodIn_r _ [11, 12, 13, 14, 15, 10, 16, 17, 18, 19, 20, 21, 22, 6, 1, 23, 24, 25, 26, 27, 28, 4, 29, 30, 31, 32, 33, 34, 35, 36, 37, 38, 39, 40, 41, 42, 43, 44, 45, 46, 47, 48, 49, 50, 51, 52] (by decide +kernel) (by decide +kernel)
set_option maxRecDepth 20000 in
theorem gX0_passYear_X0_listen : GoodIn wsX0_passYear (wsV RX0 69 RX0 yX0_listen wsX0_listen) := goodIn_app (goodIn_of _ (by decide +kernel)) ggX0_passYear_X0_listen
theorem dX0_passYear_0 : decode cX0_passYear 0 = .ok (.iconst 0, 1) := by decide +kernel
theorem dX0_passYear_1 : decode cX0_passYear 1 = .ok (.istore_n 2, 1) := by decide +kernel
theorem dX0_passYear_2 : decode cX0_passYear 2 = .ok (.iload_n 2, 1) := by decide +kernel
theorem dX0_passYear_3 : decode cX0_passYear 3 = .ok (.bipush 12, 2) := by decide +kernel
theorem dX0_passYear_5 : decode cX0_passYear 5 = .ok (.if_icmp .ge 29, 3) := by decide +kernel
theorem dX0_passYear_8 : decode cX0_passYear 8 = .ok (.aload_n 0, 1) := by decide +kernel
theorem dX0_passYear_9 : decode cX0_passYear 9 = .ok (.getfield 22, 3) := by decide +kernel
theorem dX0_passYear_12 : decode cX0_passYear 12 = .ok (.iload_n 2, 1) := by decide +kernel
theorem dX0_passYear_13 : decode cX0_passYear 13 = .ok (.aload_n 0, 1) := by decide +kernel
theorem dX0_passYear_14 : decode cX0_passYear 14 = .ok (.getfield 22, 3) := by decide +kernel
theorem dX0_passYear_17 : decode cX0_passYear 17 = .ok (.iload_n 2, 1) := by decide +kernel
theorem dX0_passYear_18 : decode cX0_passYear 18 = .ok (.iaload, 1) := by decide +kernel
theorem dX0_passYear_19 : decode cX0_passYear 19 = .ok (.iconst 1, 1) := by decide +kernel
theorem dX0_passYear_20 : decode cX0_passYear 20 = .ok (.iadd, 1) := by decide +kernel
theorem dX0_passYear_21 : decode cX0_passYear 21 = .ok (.sipush 999, 3) := by decide +kernel
theorem dX0_passYear_24 : decode cX0_passYear 24 = .ok (.invokestatic 66, 3) := by decide +kernel
theorem dX0_passYear_27 : decode cX0_passYear 27 = .ok (.iastore, 1) := by decide +kernel
theorem dX0_passYear_28 : decode cX0_passYear 28 = .ok (.iinc 2 1, 3) := by decide +kernel
theorem dX0_passYear_31 : decode cX0_passYear 31 = .ok (.goto (-29), 3) := by decide +kernel
theorem dX0_passYear_34 : decode cX0_passYear 34 = .ok (.iconst 0, 1) := by decide +kernel
theorem dX0_passYear_35 : decode cX0_passYear 35 = .ok (.istore_n 2, 1) := by decide +kernel
theorem dX0_passYear_36 : decode cX0_passYear 36 = .ok (.iload_n 2, 1) := by decide +kernel
theorem dX0_passYear_37 : decode cX0_passYear 37 = .ok (.bipush 12, 2) := by decide +kernel
theorem dX0_passYear_39 : decode cX0_passYear 39 = .ok (.if_icmp .ge 15, 3) := by decide +kernel
theorem dX0_passYear_42 : decode cX0_passYear 42 = .ok (.aload_n 0, 1) := by decide +kernel
theorem dX0_passYear_43 : decode cX0_passYear 43 = .ok (.iload_n 2, 1) := by decide +kernel
theorem dX0_passYear_44 : decode cX0_passYear 44 = .ok (.iload_n 1, 1) := by decide +kernel
theorem dX0_passYear_45 : decode cX0_passYear 45 = .ok (.invokevirtual 69, 3) := by decide +kernel
theorem dX0_passYear_48 : decode cX0_passYear 48 = .ok (.iinc 2 1, 3) := by decide +kernel
theorem dX0_passYear_51 : decode cX0_passYear 51 = .ok (.goto (-15), 3) := by decide +kernel
theorem dX0_passYear_54 : decode cX0_passYear 54 = .ok (.aload_n 0, 1) := by decide +kernel
theorem dX0_passYear_55 : decode cX0_passYear 55 = .ok (.dup, 1) := by decide +kernel
theorem dX0_passYear_56 : decode cX0_passYear 56 = .ok (.getfield 9, 3) := by decide +kernel
theorem dX0_passYear_59 : decode cX0_passYear 59 = .ok (.iconst 1, 1) := by decide +kernel
theorem dX0_passYear_60 : decode cX0_passYear 60 = .ok (.iadd, 1) := by decide +kernel
theorem dX0_passYear_61 : decode cX0_passYear 61 = .ok (.putfield 9, 3) := by decide +kernel
theorem dX0_passYear_64 : decode cX0_passYear 64 = .ok (.return_, 1) := by decide +kernel
set_option maxRecDepth 20000 in
theorem ggX0_listen_X0_isIntroduced : GoodIn wsX0_listen wsX0_isIntroduced := goodIn_r _ [6, 7, 40, 41, 42, 43, 44, 45] (by decide +kernel) (by decide +kernel)
set_option maxRecDepth 20000 in
theorem gX0_listen_X0_isIntroduced : GoodIn wsX0_listen (wsV RX0 73 RX0 yX0_isIntroduced wsX0_isIntroduced) := goodIn_app (goodIn_of _ (by decide +kernel)) ggX0_listen_X0_isIntroduced
set_option maxRecDepth 20000 in
theorem ggX0_listen_X0_hears : GoodIn wsX0_listen wsX0_hears := goodIn_r _ [11, 12, 13, 14, 40, 41, 42, 43, 44, 45] (by decide +kernel) (by decide +kernel)
set_option maxRecDepth 20000 in
theorem gX0_listen_X0_hears : GoodIn wsX0_listen (wsV RX0 77 RX0 yX0_hears wsX0_hears) := goodIn_app (goodIn_of _ (by decide +kernel)) ggX0_listen_X0_hears
set_option maxRecDepth 20000 in
theorem ggX0_listen_X0_leansOf : GoodIn wsX0_listen wsX0_leansOf := goodIn_r _ [18, 14, 19, 20, 21, 22, 12, 40, 41, 42, 43, 44, 45] (by decide +kernel) (by decide +kernel)
set_option maxRecDepth 20000 in
theorem gX0_listen_X0_leansOf : GoodIn wsX0_listen (wsV RX0 81 RX0 yX0_leansOf wsX0_leansOf) := goodIn_app (goodIn_of _ (by decide +kernel)) ggX0_listen_X0_leansOf
set_option maxRecDepth 20000 in
theorem ggX0_listen_X0_takeFrom : GoodIn wsX0_listen wsX0_takeFrom := goodIn_r _ [26, 13, 27, 28, 29, 5, 30, 31, 32, 33, 34, 35, 1, 40, 41, 42, 43, 44, 45] (by decide +kernel) (by decide +kernel)
set_option maxRecDepth 20000 in
theorem gX0_listen_X0_takeFrom : GoodIn wsX0_listen (wsV RX0 84 RX0 yX0_takeFrom wsX0_takeFrom) := goodIn_app (goodIn_of _ (by decide +kernel)) ggX0_listen_X0_takeFrom
set_option maxRecDepth 20000 in
theorem ggX0_listen_X0_nodsOf : GoodIn wsX0_listen wsX0_nodsOf := goodIn_r _ [39, 12, 14, 40, 41, 42, 43, 44, 45] (by decide +kernel) (by decide +kernel)
set_option maxRecDepth 20000 in
theorem gX0_listen_X0_nodsOf : GoodIn wsX0_listen (wsV RX0 88 RX0 yX0_nodsOf wsX0_nodsOf) := goodIn_app (goodIn_of _ (by decide +kernel)) ggX0_listen_X0_nodsOf
theorem dX0_listen_0 : decode cX0_listen 0 = .ok (.iload_n 1, 1) := by decide +kernel
theorem dX0_listen_1 : decode cX0_listen 1 = .ok (.iconst 2, 1) := by decide +kernel
theorem dX0_listen_2 : decode cX0_listen 2 = .ok (.isub, 1) := by decide +kernel
theorem dX0_listen_3 : decode cX0_listen 3 = .ok (.istore_n 3, 1) := by decide +kernel
theorem dX0_listen_4 : decode cX0_listen 4 = .ok (.iload_n 1, 1) := by decide +kernel
theorem dX0_listen_5 : decode cX0_listen 5 = .ok (.iconst 1, 1) := by decide +kernel
theorem dX0_listen_6 : decode cX0_listen 6 = .ok (.ixor, 1) := by decide +kernel
theorem dX0_listen_7 : decode cX0_listen 7 = .ok (.istore 4, 2) := by decide +kernel
theorem dX0_listen_9 : decode cX0_listen 9 = .ok (.iload_n 2, 1) := by decide +kernel
theorem dX0_listen_10 : decode cX0_listen 10 = .ok (.aload_n 0, 1) := by decide +kernel
theorem dX0_listen_11 : decode cX0_listen 11 = .ok (.getfield 25, 3) := by decide +kernel
theorem dX0_listen_14 : decode cX0_listen 14 = .ok (.iload_n 1, 1) := by decide +kernel
theorem dX0_listen_15 : decode cX0_listen 15 = .ok (.iaload, 1) := by decide +kernel
theorem dX0_listen_16 : decode cX0_listen 16 = .ok (.iconst (-1), 1) := by decide +kernel
theorem dX0_listen_17 : decode cX0_listen 17 = .ok (.ixor, 1) := by decide +kernel
theorem dX0_listen_18 : decode cX0_listen 18 = .ok (.iand, 1) := by decide +kernel
theorem dX0_listen_19 : decode cX0_listen 19 = .ok (.istore 5, 2) := by decide +kernel
theorem dX0_listen_21 : decode cX0_listen 21 = .ok (.iload_n 3, 1) := by decide +kernel
theorem dX0_listen_22 : decode cX0_listen 22 = .ok (.ifCond .lt 15, 3) := by decide +kernel
theorem dX0_listen_25 : decode cX0_listen 25 = .ok (.iload 5, 2) := by decide +kernel
theorem dX0_listen_27 : decode cX0_listen 27 = .ok (.aload_n 0, 1) := by decide +kernel
theorem dX0_listen_28 : decode cX0_listen 28 = .ok (.getfield 25, 3) := by decide +kernel
theorem dX0_listen_31 : decode cX0_listen 31 = .ok (.iload_n 3, 1) := by decide +kernel
theorem dX0_listen_32 : decode cX0_listen 32 = .ok (.iaload, 1) := by decide +kernel
theorem dX0_listen_33 : decode cX0_listen 33 = .ok (.iand, 1) := by decide +kernel
theorem dX0_listen_34 : decode cX0_listen 34 = .ok (.goto 4, 3) := by decide +kernel
theorem dX0_listen_37 : decode cX0_listen 37 = .ok (.iconst 0, 1) := by decide +kernel
theorem dX0_listen_38 : decode cX0_listen 38 = .ok (.istore 6, 2) := by decide +kernel
theorem dX0_listen_40 : decode cX0_listen 40 = .ok (.aload_n 0, 1) := by decide +kernel
theorem dX0_listen_41 : decode cX0_listen 41 = .ok (.iload_n 1, 1) := by decide +kernel
theorem dX0_listen_42 : decode cX0_listen 42 = .ok (.iconst 2, 1) := by decide +kernel
theorem dX0_listen_43 : decode cX0_listen 43 = .ok (.idiv, 1) := by decide +kernel
theorem dX0_listen_44 : decode cX0_listen 44 = .ok (.invokevirtual 73, 3) := by decide +kernel
theorem dX0_listen_47 : decode cX0_listen 47 = .ok (.ifCond .eq 16, 3) := by decide +kernel
theorem dX0_listen_50 : decode cX0_listen 50 = .ok (.iload 5, 2) := by decide +kernel
theorem dX0_listen_52 : decode cX0_listen 52 = .ok (.aload_n 0, 1) := by decide +kernel
theorem dX0_listen_53 : decode cX0_listen 53 = .ok (.getfield 25, 3) := by decide +kernel
theorem dX0_listen_56 : decode cX0_listen 56 = .ok (.iload 4, 2) := by decide +kernel
theorem dX0_listen_58 : decode cX0_listen 58 = .ok (.iaload, 1) := by decide +kernel
theorem dX0_listen_59 : decode cX0_listen 59 = .ok (.iand, 1) := by decide +kernel
theorem dX0_listen_60 : decode cX0_listen 60 = .ok (.goto 4, 3) := by decide +kernel
theorem dX0_listen_63 : decode cX0_listen 63 = .ok (.iconst 0, 1) := by decide +kernel
theorem dX0_listen_64 : decode cX0_listen 64 = .ok (.istore 7, 2) := by decide +kernel
theorem dX0_listen_66 : decode cX0_listen 66 = .ok (.iload 6, 2) := by decide +kernel
theorem dX0_listen_68 : decode cX0_listen 68 = .ok (.ifCond .eq 25, 3) := by decide +kernel
theorem dX0_listen_71 : decode cX0_listen 71 = .ok (.aload_n 0, 1) := by decide +kernel
theorem dX0_listen_72 : decode cX0_listen 72 = .ok (.iload_n 1, 1) := by decide +kernel
theorem dX0_listen_73 : decode cX0_listen 73 = .ok (.iconst 0, 1) := by decide +kernel
theorem dX0_listen_74 : decode cX0_listen 74 = .ok (.invokevirtual 77, 3) := by decide +kernel
theorem dX0_listen_77 : decode cX0_listen 77 = .ok (.ifCond .eq 16, 3) := by decide +kernel
theorem dX0_listen_80 : decode cX0_listen 80 = .ok (.aload_n 0, 1) := by decide +kernel
theorem dX0_listen_81 : decode cX0_listen 81 = .ok (.iload_n 1, 1) := by decide +kernel
theorem dX0_listen_82 : decode cX0_listen 82 = .ok (.iload_n 3, 1) := by decide +kernel
theorem dX0_listen_83 : decode cX0_listen 83 = .ok (.iload 6, 2) := by decide +kernel
theorem dX0_listen_85 : decode cX0_listen 85 = .ok (.aload_n 0, 1) := by decide +kernel
theorem dX0_listen_86 : decode cX0_listen 86 = .ok (.iload_n 3, 1) := by decide +kernel
theorem dX0_listen_87 : decode cX0_listen 87 = .ok (.invokevirtual 81, 3) := by decide +kernel
theorem dX0_listen_90 : decode cX0_listen 90 = .ok (.invokevirtual 84, 3) := by decide +kernel
theorem dX0_listen_93 : decode cX0_listen 93 = .ok (.iload 7, 2) := by decide +kernel
theorem dX0_listen_95 : decode cX0_listen 95 = .ok (.ifCond .eq 27, 3) := by decide +kernel
theorem dX0_listen_98 : decode cX0_listen 98 = .ok (.aload_n 0, 1) := by decide +kernel
theorem dX0_listen_99 : decode cX0_listen 99 = .ok (.iload_n 1, 1) := by decide +kernel
theorem dX0_listen_100 : decode cX0_listen 100 = .ok (.iconst 1, 1) := by decide +kernel
theorem dX0_listen_101 : decode cX0_listen 101 = .ok (.invokevirtual 77, 3) := by decide +kernel
theorem dX0_listen_104 : decode cX0_listen 104 = .ok (.ifCond .eq 18, 3) := by decide +kernel
theorem dX0_listen_107 : decode cX0_listen 107 = .ok (.aload_n 0, 1) := by decide +kernel
theorem dX0_listen_108 : decode cX0_listen 108 = .ok (.iload_n 1, 1) := by decide +kernel
theorem dX0_listen_109 : decode cX0_listen 109 = .ok (.iload 4, 2) := by decide +kernel
theorem dX0_listen_111 : decode cX0_listen 111 = .ok (.iload 7, 2) := by decide +kernel
theorem dX0_listen_113 : decode cX0_listen 113 = .ok (.aload_n 0, 1) := by decide +kernel
theorem dX0_listen_114 : decode cX0_listen 114 = .ok (.iload 4, 2) := by decide +kernel
theorem dX0_listen_116 : decode cX0_listen 116 = .ok (.invokevirtual 88, 3) := by decide +kernel
theorem dX0_listen_119 : decode cX0_listen 119 = .ok (.invokevirtual 84, 3) := by decide +kernel
theorem dX0_listen_122 : decode cX0_listen 122 = .ok (.return_, 1) := by decide +kernel
set_option maxRecDepth 20000 in
theorem ggX0_takeFrom_X0_learntWhen : GoodIn wsX0_takeFrom wsX0_learntWhen := goodIn_r _ [6, 7, 13, 14, 15, 16, 17, 18] (by decide +kernel) (by decide +kernel)
set_option maxRecDepth 20000 in
theorem gX0_takeFrom_X0_learntWhen : GoodIn wsX0_takeFrom (wsV RX0 91 RX0 yX0_learntWhen wsX0_learntWhen) := goodIn_app (goodIn_of _ (by decide +kernel)) ggX0_takeFrom_X0_learntWhen
set_option maxRecDepth 20000 in
theorem ggX0_takeFrom_X0_learn : GoodIn wsX0_takeFrom wsX0_learn := goodIn_r _ [11, 12, 7, 1, 13, 14, 15, 16, 17, 18] (by decide +kernel) (by decide +kernel)
set_option maxRecDepth 20000 in
theorem gX0_takeFrom_X0_learn : GoodIn wsX0_takeFrom (wsV RX0 94 RX0 yX0_learn wsX0_learn) := goodIn_app (goodIn_of _ (by decide +kernel)) ggX0_takeFrom_X0_learn
theorem dX0_takeFrom_0 : decode cX0_takeFrom 0 = .ok (.iconst 0, 1) := by decide +kernel
theorem dX0_takeFrom_1 : decode cX0_takeFrom 1 = .ok (.istore 5, 2) := by decide +kernel
theorem dX0_takeFrom_3 : decode cX0_takeFrom 3 = .ok (.iload 5, 2) := by decide +kernel
theorem dX0_takeFrom_5 : decode cX0_takeFrom 5 = .ok (.bipush 8, 2) := by decide +kernel
theorem dX0_takeFrom_7 : decode cX0_takeFrom 7 = .ok (.if_icmp .ge 43, 3) := by decide +kernel
theorem dX0_takeFrom_10 : decode cX0_takeFrom 10 = .ok (.iload_n 3, 1) := by decide +kernel
theorem dX0_takeFrom_11 : decode cX0_takeFrom 11 = .ok (.iload 5, 2) := by decide +kernel
theorem dX0_takeFrom_13 : decode cX0_takeFrom 13 = .ok (.ishr, 1) := by decide +kernel
theorem dX0_takeFrom_14 : decode cX0_takeFrom 14 = .ok (.iconst 1, 1) := by decide +kernel
theorem dX0_takeFrom_15 : decode cX0_takeFrom 15 = .ok (.iand, 1) := by decide +kernel
theorem dX0_takeFrom_16 : decode cX0_takeFrom 16 = .ok (.iconst 1, 1) := by decide +kernel
theorem dX0_takeFrom_17 : decode cX0_takeFrom 17 = .ok (.if_icmp .ne 27, 3) := by decide +kernel
theorem dX0_takeFrom_20 : decode cX0_takeFrom 20 = .ok (.aload_n 0, 1) := by decide +kernel
theorem dX0_takeFrom_21 : decode cX0_takeFrom 21 = .ok (.getfield 9, 3) := by decide +kernel
theorem dX0_takeFrom_24 : decode cX0_takeFrom 24 = .ok (.aload_n 0, 1) := by decide +kernel
theorem dX0_takeFrom_25 : decode cX0_takeFrom 25 = .ok (.iload_n 2, 1) := by decide +kernel
theorem dX0_takeFrom_26 : decode cX0_takeFrom 26 = .ok (.iload 5, 2) := by decide +kernel
theorem dX0_takeFrom_28 : decode cX0_takeFrom 28 = .ok (.invokevirtual 91, 3) := by decide +kernel
theorem dX0_takeFrom_31 : decode cX0_takeFrom 31 = .ok (.isub, 1) := by decide +kernel
theorem dX0_takeFrom_32 : decode cX0_takeFrom 32 = .ok (.iload 4, 2) := by decide +kernel
theorem dX0_takeFrom_34 : decode cX0_takeFrom 34 = .ok (.if_icmp .lt 10, 3) := by decide +kernel
theorem dX0_takeFrom_37 : decode cX0_takeFrom 37 = .ok (.aload_n 0, 1) := by decide +kernel
theorem dX0_takeFrom_38 : decode cX0_takeFrom 38 = .ok (.iload_n 1, 1) := by decide +kernel
theorem dX0_takeFrom_39 : decode cX0_takeFrom 39 = .ok (.iload 5, 2) := by decide +kernel
theorem dX0_takeFrom_41 : decode cX0_takeFrom 41 = .ok (.invokevirtual 94, 3) := by decide +kernel
theorem dX0_takeFrom_44 : decode cX0_takeFrom 44 = .ok (.iinc 5 1, 3) := by decide +kernel
theorem dX0_takeFrom_47 : decode cX0_takeFrom 47 = .ok (.goto (-44), 3) := by decide +kernel
theorem dX0_takeFrom_50 : decode cX0_takeFrom 50 = .ok (.return_, 1) := by decide +kernel
set_option maxRecDepth 20000 in
theorem ggX0_blow_X0_knownInAll : GoodIn wsX0_blow wsX0_knownInAll := goodIn_r _ [5, 6, 7, 8, 9, 10, 11, 12, 13, 34, 35, 36, 37, 38, 39] (by decide +kernel) (by decide +kernel)
set_option maxRecDepth 20000 in
theorem gX0_blow_X0_knownInAll : GoodIn wsX0_blow (wsV RX0 97 RX0 yX0_knownInAll wsX0_knownInAll) := goodIn_app (goodIn_of _ (by decide +kernel)) ggX0_blow_X0_knownInAll
set_option maxRecDepth 20000 in
theorem ggX0_blow_X0_knownByAny : GoodIn wsX0_blow wsX0_knownByAny := goodIn_r _ [17, 6, 34, 35, 36, 37, 38, 39] (by decide +kernel) (by decide +kernel)
set_option maxRecDepth 20000 in
theorem gX0_blow_X0_knownByAny : GoodIn wsX0_blow (wsV RX0 101 RX0 yX0_knownByAny wsX0_knownByAny) := goodIn_app (goodIn_of _ (by decide +kernel)) ggX0_blow_X0_knownByAny
set_option maxRecDepth 20000 in
theorem ggX0_blow_X0_hears : GoodIn wsX0_blow wsX0_hears := goodIn_r _ [21, 22, 23, 24, 34, 35, 36, 37, 38, 39] (by decide +kernel) (by decide +kernel)
set_option maxRecDepth 20000 in
theorem gX0_blow_X0_hears : GoodIn wsX0_blow (wsV RX0 77 RX0 yX0_hears wsX0_hears) := goodIn_app (goodIn_of _ (by decide +kernel)) ggX0_blow_X0_hears
set_option maxRecDepth 20000 in
theorem ggX0_blow_X0_knows : GoodIn wsX0_blow wsX0_knows := goodIn_r _ [28, 6, 34, 35, 36, 37, 38, 39] (by decide +kernel) (by decide +kernel)
set_option maxRecDepth 20000 in
theorem gX0_blow_X0_knows : GoodIn wsX0_blow (wsV RX0 53 RX0 yX0_knows wsX0_knows) := goodIn_app (goodIn_of _ (by decide +kernel)) ggX0_blow_X0_knows
set_option maxRecDepth 20000 in
theorem ggX0_blow_X0_learn : GoodIn wsX0_blow wsX0_learn := goodIn_r _ [32, 6, 33, 23, 34, 35, 36, 37, 38, 39] (by decide +kernel) (by decide +kernel)
set_option maxRecDepth 20000 in
theorem gX0_blow_X0_learn : GoodIn wsX0_blow (wsV RX0 94 RX0 yX0_learn wsX0_learn) := goodIn_app (goodIn_of _ (by decide +kernel)) ggX0_blow_X0_learn
theorem dX0_blow_0 : decode cX0_blow 0 = .ok (.aload_n 0, 1) := by decide +kernel
theorem dX0_blow_1 : decode cX0_blow 1 = .ok (.invokevirtual 97, 3) := by decide +kernel
theorem dX0_blow_4 : decode cX0_blow 4 = .ok (.istore_n 1, 1) := by decide +kernel
theorem dX0_blow_5 : decode cX0_blow 5 = .ok (.aload_n 0, 1) := by decide +kernel
theorem dX0_blow_6 : decode cX0_blow 6 = .ok (.invokevirtual 101, 3) := by decide +kernel
theorem dX0_blow_9 : decode cX0_blow 9 = .ok (.istore_n 2, 1) := by decide +kernel
theorem dX0_blow_10 : decode cX0_blow 10 = .ok (.iconst 0, 1) := by decide +kernel
theorem dX0_blow_11 : decode cX0_blow 11 = .ok (.istore_n 3, 1) := by decide +kernel
theorem dX0_blow_12 : decode cX0_blow 12 = .ok (.iload_n 3, 1) := by decide +kernel
theorem dX0_blow_13 : decode cX0_blow 13 = .ok (.bipush 12, 2) := by decide +kernel
theorem dX0_blow_15 : decode cX0_blow 15 = .ok (.if_icmp .ge 64, 3) := by decide +kernel
theorem dX0_blow_18 : decode cX0_blow 18 = .ok (.aload_n 0, 1) := by decide +kernel
theorem dX0_blow_19 : decode cX0_blow 19 = .ok (.iload_n 3, 1) := by decide +kernel
theorem dX0_blow_20 : decode cX0_blow 20 = .ok (.iconst 1, 1) := by decide +kernel
theorem dX0_blow_21 : decode cX0_blow 21 = .ok (.invokevirtual 77, 3) := by decide +kernel
theorem dX0_blow_24 : decode cX0_blow 24 = .ok (.ifCond .ne 6, 3) := by decide +kernel
theorem dX0_blow_27 : decode cX0_blow 27 = .ok (.goto 46, 3) := by decide +kernel
theorem dX0_blow_30 : decode cX0_blow 30 = .ok (.iconst 0, 1) := by decide +kernel
theorem dX0_blow_31 : decode cX0_blow 31 = .ok (.istore 4, 2) := by decide +kernel
theorem dX0_blow_33 : decode cX0_blow 33 = .ok (.iload 4, 2) := by decide +kernel
theorem dX0_blow_35 : decode cX0_blow 35 = .ok (.bipush 8, 2) := by decide +kernel
theorem dX0_blow_37 : decode cX0_blow 37 = .ok (.if_icmp .ge 36, 3) := by decide +kernel
theorem dX0_blow_40 : decode cX0_blow 40 = .ok (.iload_n 2, 1) := by decide +kernel
theorem dX0_blow_41 : decode cX0_blow 41 = .ok (.iload 4, 2) := by decide +kernel
theorem dX0_blow_43 : decode cX0_blow 43 = .ok (.ishr, 1) := by decide +kernel
theorem dX0_blow_44 : decode cX0_blow 44 = .ok (.iconst 1, 1) := by decide +kernel
theorem dX0_blow_45 : decode cX0_blow 45 = .ok (.iand, 1) := by decide +kernel
theorem dX0_blow_46 : decode cX0_blow 46 = .ok (.iconst 1, 1) := by decide +kernel
theorem dX0_blow_47 : decode cX0_blow 47 = .ok (.if_icmp .ne 20, 3) := by decide +kernel
theorem dX0_blow_50 : decode cX0_blow 50 = .ok (.aload_n 0, 1) := by decide +kernel
theorem dX0_blow_51 : decode cX0_blow 51 = .ok (.iload_n 3, 1) := by decide +kernel
theorem dX0_blow_52 : decode cX0_blow 52 = .ok (.iload 4, 2) := by decide +kernel
theorem dX0_blow_54 : decode cX0_blow 54 = .ok (.invokevirtual 53, 3) := by decide +kernel
theorem dX0_blow_57 : decode cX0_blow 57 = .ok (.ifCond .ne 10, 3) := by decide +kernel
theorem dX0_blow_60 : decode cX0_blow 60 = .ok (.aload_n 0, 1) := by decide +kernel
theorem dX0_blow_61 : decode cX0_blow 61 = .ok (.iload_n 3, 1) := by decide +kernel
theorem dX0_blow_62 : decode cX0_blow 62 = .ok (.iload 4, 2) := by decide +kernel
theorem dX0_blow_64 : decode cX0_blow 64 = .ok (.invokevirtual 94, 3) := by decide +kernel
theorem dX0_blow_67 : decode cX0_blow 67 = .ok (.iinc 4 1, 3) := by decide +kernel
theorem dX0_blow_70 : decode cX0_blow 70 = .ok (.goto (-37), 3) := by decide +kernel
theorem dX0_blow_73 : decode cX0_blow 73 = .ok (.iinc 3 1, 3) := by decide +kernel
theorem dX0_blow_76 : decode cX0_blow 76 = .ok (.goto (-64), 3) := by decide +kernel
theorem dX0_blow_79 : decode cX0_blow 79 = .ok (.aload_n 0, 1) := by decide +kernel
theorem dX0_blow_80 : decode cX0_blow 80 = .ok (.invokevirtual 97, 3) := by decide +kernel
theorem dX0_blow_83 : decode cX0_blow 83 = .ok (.iload_n 1, 1) := by decide +kernel
theorem dX0_blow_84 : decode cX0_blow 84 = .ok (.isub, 1) := by decide +kernel
theorem dX0_blow_85 : decode cX0_blow 85 = .ok (.ireturn, 1) := by decide +kernel
set_option maxRecDepth 20000 in
theorem ggX0_goHome_X3_treeAt : GoodIn wsX0_goHome wsX3_treeAt := goodIn_r _ [3] (by decide +kernel) (by decide +kernel)
set_option maxRecDepth 20000 in
theorem gX0_goHome_X3_treeAt_n43 : GoodIn wsX0_goHome (wsX3_treeAt) := ggX0_goHome_X3_treeAt
set_option maxRecDepth 20000 in
theorem ggX0_goHome_X0_knows : GoodIn wsX0_goHome wsX0_knows := goodIn_r _ [8, 9, 58, 59, 60, 61, 62, 63] (by decide +kernel) (by decide +kernel)
set_option maxRecDepth 20000 in
theorem gX0_goHome_X0_knows : GoodIn wsX0_goHome (wsV RX0 53 RX0 yX0_knows wsX0_knows) := goodIn_app (goodIn_of _ (by decide +kernel)) ggX0_goHome_X0_knows
set_option maxRecDepth 20000 in
theorem ggX0_goHome_X0_passYear : GoodIn wsX0_goHome wsX0_passYear := goodIn_r _ [13, 14, 15, 16, 17, 18, 19, 20, 21, 22, 7, 23, 9, 24, 25, 26, 27, 28, 29, 30, 31, 32, 33, 34, 35, 36, 37, 38, 39, 40, 41, 42, 43, 44, 45, 46, 47, 48, 49, 50, 51, 52, 53, 54, 55, 56, 57, 58, 59, 60, 61, 62, 63] (by decide +kernel) (by decide +kernel)
set_option maxRecDepth 20000 in
theorem gX0_goHome_X0_passYear : GoodIn wsX0_goHome (wsV RX0 62 RX0 yX0_passYear wsX0_passYear) := goodIn_app (goodIn_of _ (by decide +kernel)) ggX0_goHome_X0_passYear
theorem dX0_goHome_0 : decode cX0_goHome 0 = .ok (.iconst 0, 1) := by decide +kernel
theorem dX0_goHome_1 : decode cX0_goHome 1 = .ok (.istore_n 2, 1) := by decide +kernel
theorem dX0_goHome_2 : decode cX0_goHome 2 = .ok (.iload_n 2, 1) := by decide +kernel
theorem dX0_goHome_3 : decode cX0_goHome 3 = .ok (.sipush 200, 3) := by decide +kernel
theorem dX0_goHome_6 : decode cX0_goHome 6 = .ok (.if_icmp .gt 44, 3) := by decide +kernel
theorem dX0_goHome_9 : decode cX0_goHome 9 = .ok (.aload_n 0, 1) := by decide +kernel
theorem dX0_goHome_10 : decode cX0_goHome 10 = .ok (.iconst 5, 1) := by decide +kernel
theorem dX0_goHome_11 : decode cX0_goHome 11 = .ok (.iconst 0, 1) := by decide +kernel
theorem dX0_goHome_12 : decode cX0_goHome 12 = .ok (.invokestatic 43, 3) := by decide +kernel
theorem dX0_goHome_15 : decode cX0_goHome 15 = .ok (.iload_n 1, 1) := by decide +kernel
theorem dX0_goHome_16 : decode cX0_goHome 16 = .ok (.invokevirtual 53, 3) := by decide +kernel
theorem dX0_goHome_19 : decode cX0_goHome 19 = .ok (.ifCond .ne 16, 3) := by decide +kernel
theorem dX0_goHome_22 : decode cX0_goHome 22 = .ok (.aload_n 0, 1) := by decide +kernel
theorem dX0_goHome_23 : decode cX0_goHome 23 = .ok (.iconst 5, 1) := by decide +kernel
theorem dX0_goHome_24 : decode cX0_goHome 24 = .ok (.iconst 1, 1) := by decide +kernel
theorem dX0_goHome_25 : decode cX0_goHome 25 = .ok (.invokestatic 43, 3) := by decide +kernel
theorem dX0_goHome_28 : decode cX0_goHome 28 = .ok (.iload_n 1, 1) := by decide +kernel
theorem dX0_goHome_29 : decode cX0_goHome 29 = .ok (.invokevirtual 53, 3) := by decide +kernel
theorem dX0_goHome_32 : decode cX0_goHome 32 = .ok (.ifCond .eq 5, 3) := by decide +kernel
theorem dX0_goHome_35 : decode cX0_goHome 35 = .ok (.iload_n 2, 1) := by decide +kernel
theorem dX0_goHome_36 : decode cX0_goHome 36 = .ok (.ireturn, 1) := by decide +kernel
theorem dX0_goHome_37 : decode cX0_goHome 37 = .ok (.aload_n 0, 1) := by decide +kernel
theorem dX0_goHome_38 : decode cX0_goHome 38 = .ok (.iconst 1, 1) := by decide +kernel
theorem dX0_goHome_39 : decode cX0_goHome 39 = .ok (.iload_n 1, 1) := by decide +kernel
theorem dX0_goHome_40 : decode cX0_goHome 40 = .ok (.ishl, 1) := by decide +kernel
theorem dX0_goHome_41 : decode cX0_goHome 41 = .ok (.invokevirtual 62, 3) := by decide +kernel
theorem dX0_goHome_44 : decode cX0_goHome 44 = .ok (.iinc 2 1, 3) := by decide +kernel
theorem dX0_goHome_47 : decode cX0_goHome 47 = .ok (.goto (-45), 3) := by decide +kernel
theorem dX0_goHome_50 : decode cX0_goHome 50 = .ok (.sipush 201, 3) := by decide +kernel
theorem dX0_goHome_53 : decode cX0_goHome 53 = .ok (.ireturn, 1) := by decide +kernel
theorem dX1_init_0 : decode cX1_init 0 = .ok (.aload_n 0, 1) := by decide +kernel
theorem dX1_init_1 : decode cX1_init 1 = .ok (.invokespecial 3, 3) := by decide +kernel
theorem dX1_init_4 : decode cX1_init 4 = .ok (.aload_n 0, 1) := by decide +kernel
theorem dX1_init_5 : decode cX1_init 5 = .ok (.iconst 0, 1) := by decide +kernel
theorem dX1_init_6 : decode cX1_init 6 = .ok (.putfield 9, 3) := by decide +kernel
theorem dX1_init_9 : decode cX1_init 9 = .ok (.aload_n 0, 1) := by decide +kernel
theorem dX1_init_10 : decode cX1_init 10 = .ok (.iconst 0, 1) := by decide +kernel
theorem dX1_init_11 : decode cX1_init 11 = .ok (.putfield 15, 3) := by decide +kernel
theorem dX1_init_14 : decode cX1_init 14 = .ok (.aload_n 0, 1) := by decide +kernel
theorem dX1_init_15 : decode cX1_init 15 = .ok (.bipush 40, 2) := by decide +kernel
theorem dX1_init_17 : decode cX1_init 17 = .ok (.newarray .long, 2) := by decide +kernel
theorem dX1_init_19 : decode cX1_init 19 = .ok (.putfield 18, 3) := by decide +kernel
theorem dX1_init_22 : decode cX1_init 22 = .ok (.return_, 1) := by decide +kernel
set_option maxRecDepth 20000 in
theorem ggX1_layNew_J7_fill_d0a16 : GoodIn wsX1_layNew wsJ7_fill_d0a16 := goodIn_r _ [7] (by decide +kernel) (by decide +kernel)
set_option maxRecDepth 20000 in
theorem gX1_layNew_J7_fill_d0a16 : GoodIn wsX1_layNew (va_wsS RX1 22 yJ7_fill_d0a16 wsJ7_fill_d0a16) := goodIn_app (goodIn_of _ (by decide +kernel)) ggX1_layNew_J7_fill_d0a16
theorem dX1_layNew_0 : decode cX1_layNew 0 = .ok (.aload_n 0, 1) := by decide +kernel
theorem dX1_layNew_1 : decode cX1_layNew 1 = .ok (.iload_n 1, 1) := by decide +kernel
theorem dX1_layNew_2 : decode cX1_layNew 2 = .ok (.putfield 9, 3) := by decide +kernel
theorem dX1_layNew_5 : decode cX1_layNew 5 = .ok (.aload_n 0, 1) := by decide +kernel
theorem dX1_layNew_6 : decode cX1_layNew 6 = .ok (.iload_n 1, 1) := by decide +kernel
theorem dX1_layNew_7 : decode cX1_layNew 7 = .ok (.ifCond .ne 7, 3) := by decide +kernel
theorem dX1_layNew_10 : decode cX1_layNew 10 = .ok (.iconst 0, 1) := by decide +kernel
theorem dX1_layNew_11 : decode cX1_layNew 11 = .ok (.goto 4, 3) := by decide +kernel
theorem dX1_layNew_14 : decode cX1_layNew 14 = .ok (.iload_n 2, 1) := by decide +kernel
theorem dX1_layNew_15 : decode cX1_layNew 15 = .ok (.putfield 15, 3) := by decide +kernel
theorem dX1_layNew_18 : decode cX1_layNew 18 = .ok (.aload_n 0, 1) := by decide +kernel
theorem dX1_layNew_19 : decode cX1_layNew 19 = .ok (.getfield 18, 3) := by decide +kernel
theorem dX1_layNew_22 : decode cX1_layNew 22 = .ok (.lconst 0, 1) := by decide +kernel
theorem dX1_layNew_23 : decode cX1_layNew 23 = .ok (.invokestatic 22, 3) := by decide +kernel
theorem dX1_layNew_26 : decode cX1_layNew 26 = .ok (.return_, 1) := by decide +kernel
theorem dX1_isMissing_0 : decode cX1_isMissing 0 = .ok (.aload_n 0, 1) := by decide +kernel
theorem dX1_isMissing_1 : decode cX1_isMissing 1 = .ok (.getfield 9, 3) := by decide +kernel
theorem dX1_isMissing_4 : decode cX1_isMissing 4 = .ok (.ifCond .ne 7, 3) := by decide +kernel
theorem dX1_isMissing_7 : decode cX1_isMissing 7 = .ok (.iconst 1, 1) := by decide +kernel
theorem dX1_isMissing_8 : decode cX1_isMissing 8 = .ok (.goto 4, 3) := by decide +kernel
theorem dX1_isMissing_11 : decode cX1_isMissing 11 = .ok (.iconst 0, 1) := by decide +kernel
theorem dX1_isMissing_12 : decode cX1_isMissing 12 = .ok (.ireturn, 1) := by decide +kernel
theorem dX1_has_0 : decode cX1_has 0 = .ok (.iload_n 1, 1) := by decide +kernel
theorem dX1_has_1 : decode cX1_has 1 = .ok (.ifCond .lt 29, 3) := by decide +kernel
theorem dX1_has_4 : decode cX1_has 4 = .ok (.iload_n 2, 1) := by decide +kernel
theorem dX1_has_5 : decode cX1_has 5 = .ok (.ifCond .lt 25, 3) := by decide +kernel
theorem dX1_has_8 : decode cX1_has 8 = .ok (.iload_n 2, 1) := by decide +kernel
theorem dX1_has_9 : decode cX1_has 9 = .ok (.aload_n 0, 1) := by decide +kernel
theorem dX1_has_10 : decode cX1_has 10 = .ok (.getfield 15, 3) := by decide +kernel
theorem dX1_has_13 : decode cX1_has 13 = .ok (.if_icmp .gt 17, 3) := by decide +kernel
theorem dX1_has_16 : decode cX1_has 16 = .ok (.iload_n 1, 1) := by decide +kernel
theorem dX1_has_17 : decode cX1_has 17 = .ok (.aload_n 0, 1) := by decide +kernel
theorem dX1_has_18 : decode cX1_has 18 = .ok (.getfield 15, 3) := by decide +kernel
theorem dX1_has_21 : decode cX1_has 21 = .ok (.iload_n 2, 1) := by decide +kernel
theorem dX1_has_22 : decode cX1_has 22 = .ok (.isub, 1) := by decide +kernel
theorem dX1_has_23 : decode cX1_has 23 = .ok (.if_icmp .gt 7, 3) := by decide +kernel
theorem dX1_has_26 : decode cX1_has 26 = .ok (.iconst 1, 1) := by decide +kernel
theorem dX1_has_27 : decode cX1_has 27 = .ok (.goto 4, 3) := by decide +kernel
theorem dX1_has_30 : decode cX1_has 30 = .ok (.iconst 0, 1) := by decide +kernel
theorem dX1_has_31 : decode cX1_has 31 = .ok (.ireturn, 1) := by decide +kernel
theorem dX1_put_0 : decode cX1_put 0 = .ok (.aload_n 0, 1) := by decide +kernel
theorem dX1_put_1 : decode cX1_put 1 = .ok (.getfield 9, 3) := by decide +kernel
theorem dX1_put_4 : decode cX1_put 4 = .ok (.bipush 8, 2) := by decide +kernel
theorem dX1_put_6 : decode cX1_put 6 = .ok (.if_icmp .ne 16, 3) := by decide +kernel
theorem dX1_put_9 : decode cX1_put 9 = .ok (.aload_n 0, 1) := by decide +kernel
theorem dX1_put_10 : decode cX1_put 10 = .ok (.getfield 18, 3) := by decide +kernel
theorem dX1_put_13 : decode cX1_put 13 = .ok (.iload_n 1, 1) := by decide +kernel
theorem dX1_put_14 : decode cX1_put 14 = .ok (.lload_n 2, 1) := by decide +kernel
theorem dX1_put_15 : decode cX1_put 15 = .ok (.l2i, 1) := by decide +kernel
theorem dX1_put_16 : decode cX1_put 16 = .ok (.i2b, 1) := by decide +kernel
theorem dX1_put_17 : decode cX1_put 17 = .ok (.i2l, 1) := by decide +kernel
theorem dX1_put_18 : decode cX1_put 18 = .ok (.lastore, 1) := by decide +kernel
theorem dX1_put_19 : decode cX1_put 19 = .ok (.goto 32, 3) := by decide +kernel
theorem dX1_put_22 : decode cX1_put 22 = .ok (.aload_n 0, 1) := by decide +kernel
theorem dX1_put_23 : decode cX1_put 23 = .ok (.getfield 9, 3) := by decide +kernel
theorem dX1_put_26 : decode cX1_put 26 = .ok (.bipush 16, 2) := by decide +kernel
theorem dX1_put_28 : decode cX1_put 28 = .ok (.if_icmp .ne 16, 3) := by decide +kernel
theorem dX1_put_31 : decode cX1_put 31 = .ok (.aload_n 0, 1) := by decide +kernel
theorem dX1_put_32 : decode cX1_put 32 = .ok (.getfield 18, 3) := by decide +kernel
theorem dX1_put_35 : decode cX1_put 35 = .ok (.iload_n 1, 1) := by decide +kernel
theorem dX1_put_36 : decode cX1_put 36 = .ok (.lload_n 2, 1) := by decide +kernel
theorem dX1_put_37 : decode cX1_put 37 = .ok (.l2i, 1) := by decide +kernel
theorem dX1_put_38 : decode cX1_put 38 = .ok (.i2s, 1) := by decide +kernel
theorem dX1_put_39 : decode cX1_put 39 = .ok (.i2l, 1) := by decide +kernel
theorem dX1_put_40 : decode cX1_put 40 = .ok (.lastore, 1) := by decide +kernel
theorem dX1_put_41 : decode cX1_put 41 = .ok (.goto 10, 3) := by decide +kernel
theorem dX1_put_44 : decode cX1_put 44 = .ok (.aload_n 0, 1) := by decide +kernel
theorem dX1_put_45 : decode cX1_put 45 = .ok (.getfield 18, 3) := by decide +kernel
theorem dX1_put_48 : decode cX1_put 48 = .ok (.iload_n 1, 1) := by decide +kernel
theorem dX1_put_49 : decode cX1_put 49 = .ok (.lload_n 2, 1) := by decide +kernel
theorem dX1_put_50 : decode cX1_put 50 = .ok (.lastore, 1) := by decide +kernel
theorem dX1_put_51 : decode cX1_put 51 = .ok (.return_, 1) := by decide +kernel
theorem dX2_init_0 : decode cX2_init 0 = .ok (.aload_n 0, 1) := by decide +kernel
theorem dX2_init_1 : decode cX2_init 1 = .ok (.invokespecial 3, 3) := by decide +kernel
theorem dX2_init_4 : decode cX2_init 4 = .ok (.aload_n 0, 1) := by decide +kernel
theorem dX2_init_5 : decode cX2_init 5 = .ok (.iconst 0, 1) := by decide +kernel
theorem dX2_init_6 : decode cX2_init 6 = .ok (.putfield 9, 3) := by decide +kernel
theorem dX2_init_9 : decode cX2_init 9 = .ok (.aload_n 0, 1) := by decide +kernel
theorem dX2_init_10 : decode cX2_init 10 = .ok (.bipush 120, 2) := by decide +kernel
theorem dX2_init_12 : decode cX2_init 12 = .ok (.newarray .byte, 2) := by decide +kernel
theorem dX2_init_14 : decode cX2_init 14 = .ok (.putfield 15, 3) := by decide +kernel
theorem dX2_init_17 : decode cX2_init 17 = .ok (.aload_n 0, 1) := by decide +kernel
theorem dX2_init_18 : decode cX2_init 18 = .ok (.iconst 0, 1) := by decide +kernel
theorem dX2_init_19 : decode cX2_init 19 = .ok (.putfield 19, 3) := by decide +kernel
theorem dX2_init_22 : decode cX2_init 22 = .ok (.aload_n 0, 1) := by decide +kernel
theorem dX2_init_23 : decode cX2_init 23 = .ok (.iconst 0, 1) := by decide +kernel
theorem dX2_init_24 : decode cX2_init 24 = .ok (.putfield 22, 3) := by decide +kernel
theorem dX2_init_27 : decode cX2_init 27 = .ok (.aload_n 0, 1) := by decide +kernel
theorem dX2_init_28 : decode cX2_init 28 = .ok (.iconst 0, 1) := by decide +kernel
theorem dX2_init_29 : decode cX2_init 29 = .ok (.putfield 25, 3) := by decide +kernel
theorem dX2_init_32 : decode cX2_init 32 = .ok (.aload_n 0, 1) := by decide +kernel
theorem dX2_init_33 : decode cX2_init 33 = .ok (.iconst 0, 1) := by decide +kernel
theorem dX2_init_34 : decode cX2_init 34 = .ok (.putfield 28, 3) := by decide +kernel
theorem dX2_init_37 : decode cX2_init 37 = .ok (.return_, 1) := by decide +kernel
theorem dX2_add_0 : decode cX2_add 0 = .ok (.aload_n 0, 1) := by decide +kernel
theorem dX2_add_1 : decode cX2_add 1 = .ok (.getfield 9, 3) := by decide +kernel
theorem dX2_add_4 : decode cX2_add 4 = .ok (.bipush 120, 2) := by decide +kernel
theorem dX2_add_6 : decode cX2_add 6 = .ok (.if_icmp .ge 23, 3) := by decide +kernel
theorem dX2_add_9 : decode cX2_add 9 = .ok (.aload_n 0, 1) := by decide +kernel
theorem dX2_add_10 : decode cX2_add 10 = .ok (.getfield 15, 3) := by decide +kernel
theorem dX2_add_13 : decode cX2_add 13 = .ok (.aload_n 0, 1) := by decide +kernel
theorem dX2_add_14 : decode cX2_add 14 = .ok (.getfield 9, 3) := by decide +kernel
theorem dX2_add_17 : decode cX2_add 17 = .ok (.iload_n 1, 1) := by decide +kernel
theorem dX2_add_18 : decode cX2_add 18 = .ok (.bastore, 1) := by decide +kernel
theorem dX2_add_19 : decode cX2_add 19 = .ok (.aload_n 0, 1) := by decide +kernel
theorem dX2_add_20 : decode cX2_add 20 = .ok (.dup, 1) := by decide +kernel
theorem dX2_add_21 : decode cX2_add 21 = .ok (.getfield 9, 3) := by decide +kernel
theorem dX2_add_24 : decode cX2_add 24 = .ok (.iconst 1, 1) := by decide +kernel
theorem dX2_add_25 : decode cX2_add 25 = .ok (.iadd, 1) := by decide +kernel
theorem dX2_add_26 : decode cX2_add 26 = .ok (.putfield 9, 3) := by decide +kernel
theorem dX2_add_29 : decode cX2_add 29 = .ok (.return_, 1) := by decide +kernel
set_option maxRecDepth 20000 in
theorem ggX2_layOut_X2_advance : GoodIn wsX2_layOut wsX2_advance := goodIn_r _ [8, 1, 3, 9, 10, 2, 11, 12, 13, 14, 15, 16, 17, 7, 18, 19, 20, 21, 124, 125, 126, 127, 128, 129] (by decide +kernel) (by decide +kernel)
set_option maxRecDepth 20000 in
theorem gX2_layOut_X2_advance : GoodIn wsX2_layOut (wsV RX2 31 RX2 yX2_advance wsX2_advance) := goodIn_app (goodIn_of _ (by decide +kernel)) ggX2_layOut_X2_advance
set_option maxRecDepth 20000 in
theorem ggX2_layOut_X2_takeItem : GoodIn wsX2_layOut wsX2_takeItem := goodIn_r _ [25, 26, 27, 7, 28, 29, 30, 31, 32, 2, 1, 3, 10, 33, 34, 35, 36, 37, 38, 39, 40, 41, 42, 43, 44, 45, 46, 47, 48, 49, 50, 51, 52, 53, 54, 55, 56, 57, 58, 59, 60, 61, 62, 63, 64, 65, 66, 67, 68, 69, 70, 71, 72, 73, 74, 75, 76, 77, 78, 79, 80, 81, 4, 5, 6, 8, 9, 11, 12, 13, 14, 15, 16, 17, 18, 19, 20, 21, 82, 83, 84, 85, 86, 87, 88, 89, 90, 91, 92, 93, 94, 95, 96, 97, 98, 99, 100, 101, 102, 103, 104, 105, 106, 107, 108, 109, 110, 111, 112, 113, 114, 115, 116, 117, 118, 119, 120, 121, 122, 123, 124, 125, 126, 127, 128, 129, 130, 131, 132, 133, 134, 135] (by decide +kernel) (by decide +kernel)
set_option maxRecDepth 20000 in
theorem gX2_layOut_X2_takeItem : GoodIn wsX2_layOut (wsV RX2 34 RX2 yX2_takeItem wsX2_takeItem) := goodIn_app (goodIn_of _ (by decide +kernel)) ggX2_layOut_X2_takeItem
theorem dX2_layOut_0 : decode cX2_layOut 0 = .ok (.aload_n 0, 1) := by decide +kernel
theorem dX2_layOut_1 : decode cX2_layOut 1 = .ok (.iconst 0, 1) := by decide +kernel
theorem dX2_layOut_2 : decode cX2_layOut 2 = .ok (.putfield 22, 3) := by decide +kernel
theorem dX2_layOut_5 : decode cX2_layOut 5 = .ok (.aload_n 0, 1) := by decide +kernel
theorem dX2_layOut_6 : decode cX2_layOut 6 = .ok (.invokevirtual 31, 3) := by decide +kernel
theorem dX2_layOut_9 : decode cX2_layOut 9 = .ok (.iconst 1, 1) := by decide +kernel
theorem dX2_layOut_10 : decode cX2_layOut 10 = .ok (.istore_n 2, 1) := by decide +kernel
theorem dX2_layOut_11 : decode cX2_layOut 11 = .ok (.iload_n 2, 1) := by decide +kernel
theorem dX2_layOut_12 : decode cX2_layOut 12 = .ok (.bipush 120, 2) := by decide +kernel
theorem dX2_layOut_14 : decode cX2_layOut 14 = .ok (.if_icmp .gt 44, 3) := by decide +kernel
theorem dX2_layOut_17 : decode cX2_layOut 17 = .ok (.aload_n 0, 1) := by decide +kernel
theorem dX2_layOut_18 : decode cX2_layOut 18 = .ok (.aload_n 1, 1) := by decide +kernel
theorem dX2_layOut_19 : decode cX2_layOut 19 = .ok (.invokevirtual 34, 3) := by decide +kernel
theorem dX2_layOut_22 : decode cX2_layOut 22 = .ok (.ifCond .ne 6, 3) := by decide +kernel
theorem dX2_layOut_25 : decode cX2_layOut 25 = .ok (.goto 33, 3) := by decide +kernel
theorem dX2_layOut_28 : decode cX2_layOut 28 = .ok (.aload_n 0, 1) := by decide +kernel
theorem dX2_layOut_29 : decode cX2_layOut 29 = .ok (.getfield 25, 3) := by decide +kernel
theorem dX2_layOut_32 : decode cX2_layOut 32 = .ok (.ifCond .ne 5, 3) := by decide +kernel
theorem dX2_layOut_35 : decode cX2_layOut 35 = .ok (.iload_n 2, 1) := by decide +kernel
theorem dX2_layOut_36 : decode cX2_layOut 36 = .ok (.ireturn, 1) := by decide +kernel
theorem dX2_layOut_37 : decode cX2_layOut 37 = .ok (.aload_n 0, 1) := by decide +kernel
theorem dX2_layOut_38 : decode cX2_layOut 38 = .ok (.getfield 25, 3) := by decide +kernel
theorem dX2_layOut_41 : decode cX2_layOut 41 = .ok (.iconst 3, 1) := by decide +kernel
theorem dX2_layOut_42 : decode cX2_layOut 42 = .ok (.if_icmp .eq 6, 3) := by decide +kernel
theorem dX2_layOut_45 : decode cX2_layOut 45 = .ok (.goto 13, 3) := by decide +kernel
theorem dX2_layOut_48 : decode cX2_layOut 48 = .ok (.aload_n 0, 1) := by decide +kernel
theorem dX2_layOut_49 : decode cX2_layOut 49 = .ok (.invokevirtual 31, 3) := by decide +kernel
theorem dX2_layOut_52 : decode cX2_layOut 52 = .ok (.iinc 2 1, 3) := by decide +kernel
theorem dX2_layOut_55 : decode cX2_layOut 55 = .ok (.goto (-44), 3) := by decide +kernel
theorem dX2_layOut_58 : decode cX2_layOut 58 = .ok (.iconst (-1), 1) := by decide +kernel
theorem dX2_layOut_59 : decode cX2_layOut 59 = .ok (.aload_n 0, 1) := by decide +kernel
theorem dX2_layOut_60 : decode cX2_layOut 60 = .ok (.getfield 19, 3) := by decide +kernel
theorem dX2_layOut_63 : decode cX2_layOut 63 = .ok (.isub, 1) := by decide +kernel
theorem dX2_layOut_64 : decode cX2_layOut 64 = .ok (.ireturn, 1) := by decide +kernel
set_option maxRecDepth 20000 in
theorem ggX2_takeItem_X2_nameOf : GoodIn wsX2_takeItem wsX2_nameOf := goodIn_r _ [4] (by decide +kernel) (by decide +kernel)
set_option maxRecDepth 20000 in
theorem gX2_takeItem_X2_nameOf : GoodIn wsX2_takeItem (va_wsS RX2 38 yX2_nameOf wsX2_nameOf) := goodIn_app (goodIn_of _ (by decide +kernel)) ggX2_takeItem_X2_nameOf
set_option maxRecDepth 20000 in
theorem ggX2_takeItem_X2_takeWord : GoodIn wsX2_takeItem wsX2_takeWord := goodIn_r _ [8, 9, 10, 11, 12, 13, 14, 15, 16, 17, 18, 19, 20, 21, 22, 23, 24, 25, 26, 27, 28, 29, 30, 31, 32, 33, 34, 35, 36, 37, 38, 39, 40, 41, 42, 43, 44, 45, 46, 47, 48, 49, 50, 51, 52, 53, 54, 55, 56, 57, 58, 59, 60, 61, 62, 63, 64, 3, 65, 66, 67, 68, 69, 70, 71, 72, 73, 74, 75, 76, 77, 120, 121, 122, 123, 124, 125] (by decide +kernel) (by decide +kernel)
set_option maxRecDepth 20000 in
theorem gX2_takeItem_X2_takeWord : GoodIn wsX2_takeItem (wsV RX2 42 RX2 yX2_takeWord wsX2_takeWord) := goodIn_app (goodIn_of _ (by decide +kernel)) ggX2_takeItem_X2_takeWord
set_option maxRecDepth 20000 in
theorem ggX2_takeItem_X2_takeTree : GoodIn wsX2_takeItem wsX2_takeTree := goodIn_r _ [81, 5, 6, 7, 3, 8, 9, 10, 11, 12, 13, 14, 15, 16, 17, 18, 19, 20, 21, 22, 23, 24, 25, 26, 27, 28, 29, 30, 31, 32, 33, 34, 35, 36, 37, 38, 39, 40, 41, 42, 43, 44, 45, 46, 47, 48, 49, 50, 51, 52, 53, 54, 55, 56, 57, 58, 59, 60, 61, 62, 63, 64, 65, 66, 67, 68, 69, 70, 71, 72, 73, 74, 75, 76, 77, 82, 83, 84, 85, 86, 87, 88, 89, 90, 91, 92, 93, 94, 95, 96, 120, 121, 122, 123, 124, 125, 126, 127, 128, 129, 130, 131] (by decide +kernel) (by decide +kernel)
set_option maxRecDepth 20000 in
theorem gX2_takeItem_X2_takeTree : GoodIn wsX2_takeItem (wsV RX2 46 RX2 yX2_takeTree wsX2_takeTree) := goodIn_app (goodIn_of _ (by decide +kernel)) ggX2_takeItem_X2_takeTree
set_option maxRecDepth 20000 in
theorem ggX2_takeItem_X2_takePair : GoodIn wsX2_takeItem wsX2_takePair := goodIn_r _ [100, 82, 83, 84, 3, 85, 9, 67, 62, 63, 64, 65, 10, 11, 66, 12, 68, 69, 70, 71, 72, 73, 74, 75, 76, 77, 101, 102, 103, 92, 104, 105, 120, 121, 122, 123, 124, 125, 126, 127, 128, 129, 130, 131] (by decide +kernel) (by decide +kernel)
set_option maxRecDepth 20000 in
theorem gX2_takeItem_X2_takePair : GoodIn wsX2_takeItem (wsV RX2 52 RX2 yX2_takePair wsX2_takePair) := goodIn_app (goodIn_of _ (by decide +kernel)) ggX2_takeItem_X2_takePair
set_option maxRecDepth 20000 in
theorem ggX2_takeItem_X2_takeMessage : GoodIn wsX2_takeItem wsX2_takeMessage := goodIn_r _ [109, 82, 83, 84, 3, 85, 9, 67, 62, 63, 64, 65, 10, 11, 66, 12, 68, 69, 70, 71, 72, 73, 74, 75, 76, 77, 86, 87, 88, 110, 111, 112, 92, 113, 96, 114, 115, 116, 117, 118, 119, 120, 121, 122, 123, 124, 125, 126, 127, 128, 129, 130, 131] (by decide +kernel) (by decide +kernel)
set_option maxRecDepth 20000 in
theorem gX2_takeItem_X2_takeMessage : GoodIn wsX2_takeItem (wsV RX2 60 RX2 yX2_takeMessage wsX2_takeMessage) := goodIn_app (goodIn_of _ (by decide +kernel)) ggX2_takeItem_X2_takeMessage
theorem dX2_takeItem_0 : decode cX2_takeItem 0 = .ok (.iconst 0, 1) := by decide +kernel
theorem dX2_takeItem_1 : decode cX2_takeItem 1 = .ok (.istore_n 2, 1) := by decide +kernel
theorem dX2_takeItem_2 : decode cX2_takeItem 2 = .ok (.iload_n 2, 1) := by decide +kernel
theorem dX2_takeItem_3 : decode cX2_takeItem 3 = .ok (.bipush 6, 2) := by decide +kernel
theorem dX2_takeItem_5 : decode cX2_takeItem 5 = .ok (.if_icmp .ge 27, 3) := by decide +kernel
theorem dX2_takeItem_8 : decode cX2_takeItem 8 = .ok (.aload_n 0, 1) := by decide +kernel
theorem dX2_takeItem_9 : decode cX2_takeItem 9 = .ok (.iload_n 2, 1) := by decide +kernel
theorem dX2_takeItem_10 : decode cX2_takeItem 10 = .ok (.invokestatic 38, 3) := by decide +kernel
theorem dX2_takeItem_13 : decode cX2_takeItem 13 = .ok (.invokevirtual 42, 3) := by decide +kernel
theorem dX2_takeItem_16 : decode cX2_takeItem 16 = .ok (.ifCond .eq 10, 3) := by decide +kernel
theorem dX2_takeItem_19 : decode cX2_takeItem 19 = .ok (.aload_n 0, 1) := by decide +kernel
theorem dX2_takeItem_20 : decode cX2_takeItem 20 = .ok (.aload_n 1, 1) := by decide +kernel
theorem dX2_takeItem_21 : decode cX2_takeItem 21 = .ok (.iload_n 2, 1) := by decide +kernel
theorem dX2_takeItem_22 : decode cX2_takeItem 22 = .ok (.invokevirtual 46, 3) := by decide +kernel
theorem dX2_takeItem_25 : decode cX2_takeItem 25 = .ok (.ireturn, 1) := by decide +kernel
theorem dX2_takeItem_26 : decode cX2_takeItem 26 = .ok (.iinc 2 1, 3) := by decide +kernel
theorem dX2_takeItem_29 : decode cX2_takeItem 29 = .ok (.goto (-27), 3) := by decide +kernel
theorem dX2_takeItem_32 : decode cX2_takeItem 32 = .ok (.aload_n 0, 1) := by decide +kernel
theorem dX2_takeItem_33 : decode cX2_takeItem 33 = .ok (.ldc 50, 2) := by decide +kernel
theorem dX2_takeItem_35 : decode cX2_takeItem 35 = .ok (.invokevirtual 42, 3) := by decide +kernel
theorem dX2_takeItem_38 : decode cX2_takeItem 38 = .ok (.ifCond .eq 10, 3) := by decide +kernel
theorem dX2_takeItem_41 : decode cX2_takeItem 41 = .ok (.aload_n 0, 1) := by decide +kernel
theorem dX2_takeItem_42 : decode cX2_takeItem 42 = .ok (.aload_n 1, 1) := by decide +kernel
theorem dX2_takeItem_43 : decode cX2_takeItem 43 = .ok (.iconst 0, 1) := by decide +kernel
theorem dX2_takeItem_44 : decode cX2_takeItem 44 = .ok (.invokevirtual 52, 3) := by decide +kernel
theorem dX2_takeItem_47 : decode cX2_takeItem 47 = .ok (.ireturn, 1) := by decide +kernel
theorem dX2_takeItem_48 : decode cX2_takeItem 48 = .ok (.aload_n 0, 1) := by decide +kernel
theorem dX2_takeItem_49 : decode cX2_takeItem 49 = .ok (.ldc 56, 2) := by decide +kernel
theorem dX2_takeItem_51 : decode cX2_takeItem 51 = .ok (.invokevirtual 42, 3) := by decide +kernel
theorem dX2_takeItem_54 : decode cX2_takeItem 54 = .ok (.ifCond .eq 10, 3) := by decide +kernel
theorem dX2_takeItem_57 : decode cX2_takeItem 57 = .ok (.aload_n 0, 1) := by decide +kernel
theorem dX2_takeItem_58 : decode cX2_takeItem 58 = .ok (.aload_n 1, 1) := by decide +kernel
theorem dX2_takeItem_59 : decode cX2_takeItem 59 = .ok (.iconst 1, 1) := by decide +kernel
theorem dX2_takeItem_60 : decode cX2_takeItem 60 = .ok (.invokevirtual 52, 3) := by decide +kernel
theorem dX2_takeItem_63 : decode cX2_takeItem 63 = .ok (.ireturn, 1) := by decide +kernel
theorem dX2_takeItem_64 : decode cX2_takeItem 64 = .ok (.aload_n 0, 1) := by decide +kernel
theorem dX2_takeItem_65 : decode cX2_takeItem 65 = .ok (.ldc 58, 2) := by decide +kernel
theorem dX2_takeItem_67 : decode cX2_takeItem 67 = .ok (.invokevirtual 42, 3) := by decide +kernel
theorem dX2_takeItem_70 : decode cX2_takeItem 70 = .ok (.ifCond .eq 15, 3) := by decide +kernel
theorem dX2_takeItem_73 : decode cX2_takeItem 73 = .ok (.aload_n 0, 1) := by decide +kernel
theorem dX2_takeItem_74 : decode cX2_takeItem 74 = .ok (.aload_n 1, 1) := by decide +kernel
theorem dX2_takeItem_75 : decode cX2_takeItem 75 = .ok (.invokevirtual 60, 3) := by decide +kernel
theorem dX2_takeItem_78 : decode cX2_takeItem 78 = .ok (.ifCond .eq 7, 3) := by decide +kernel
theorem dX2_takeItem_81 : decode cX2_takeItem 81 = .ok (.iconst 1, 1) := by decide +kernel
theorem dX2_takeItem_82 : decode cX2_takeItem 82 = .ok (.goto 4, 3) := by decide +kernel
theorem dX2_takeItem_85 : decode cX2_takeItem 85 = .ok (.iconst 0, 1) := by decide +kernel
theorem dX2_takeItem_86 : decode cX2_takeItem 86 = .ok (.ireturn, 1) := by decide +kernel
set_option maxRecDepth 20000 in
theorem ggX2_takeTree_X2_takeWord : GoodIn wsX2_takeTree wsX2_takeWord := goodIn_r _ [5, 6, 7, 8, 9, 10, 11, 12, 13, 14, 15, 16, 17, 18, 19, 20, 21, 22, 23, 24, 25, 26, 27, 28, 29, 30, 31, 32, 33, 34, 35, 36, 37, 38, 39, 40, 41, 42, 43, 44, 45, 46, 47, 48, 49, 50, 51, 52, 53, 54, 55, 56, 57, 58, 59, 60, 61, 4, 62, 63, 64, 65, 66, 67, 68, 69, 70, 71, 72, 73, 74, 90, 91, 92, 93, 94, 95] (by decide +kernel) (by decide +kernel)
set_option maxRecDepth 20000 in
theorem gX2_takeTree_X2_takeWord : GoodIn wsX2_takeTree (wsV RX2 42 RX2 yX2_takeWord wsX2_takeWord) := goodIn_app (goodIn_of _ (by decide +kernel)) ggX2_takeTree_X2_takeWord
set_option maxRecDepth 20000 in
theorem ggX2_takeTree_X2_takeNumber : GoodIn wsX2_takeTree wsX2_takeNumber := goodIn_r _ [78, 6, 64, 59, 60, 61, 4, 62, 7, 8, 63, 9, 65, 66, 67, 68, 69, 70, 71, 72, 73, 74, 90, 91, 92, 93, 94, 95] (by decide +kernel) (by decide +kernel)
set_option maxRecDepth 20000 in
theorem gX2_takeTree_X2_takeNumber : GoodIn wsX2_takeTree (wsV RX2 65 RX2 yX2_takeNumber wsX2_takeNumber) := goodIn_app (goodIn_of _ (by decide +kernel)) ggX2_takeTree_X2_takeNumber
set_option maxRecDepth 20000 in
theorem ggX2_takeTree_X3_treeAt : GoodIn wsX2_takeTree wsX3_treeAt := goodIn_r _ [81] (by decide +kernel) (by decide +kernel)
set_option maxRecDepth 20000 in
theorem gX2_takeTree_X3_treeAt_n71 : GoodIn wsX2_takeTree (wsX3_treeAt) := ggX2_takeTree_X3_treeAt
set_option maxRecDepth 20000 in
theorem ggX2_takeTree_X0_setAnew : GoodIn wsX2_takeTree wsX0_setAnew := goodIn_r _ [86, 87, 88, 89, 96, 97, 98, 99, 100, 101] (by decide +kernel) (by decide +kernel)
set_option maxRecDepth 20000 in
theorem gX2_takeTree_X0_setAnew : GoodIn wsX2_takeTree (wsV RX2 75 RX0 yX0_setAnew wsX0_setAnew) := goodIn_app (goodIn_of _ (by decide +kernel)) ggX2_takeTree_X0_setAnew
theorem dX2_takeTree_0 : decode cX2_takeTree 0 = .ok (.aload_n 0, 1) := by decide +kernel
theorem dX2_takeTree_1 : decode cX2_takeTree 1 = .ok (.ldc 63, 2) := by decide +kernel
theorem dX2_takeTree_3 : decode cX2_takeTree 3 = .ok (.invokevirtual 42, 3) := by decide +kernel
theorem dX2_takeTree_6 : decode cX2_takeTree 6 = .ok (.ifCond .ne 5, 3) := by decide +kernel
theorem dX2_takeTree_9 : decode cX2_takeTree 9 = .ok (.iconst 0, 1) := by decide +kernel
theorem dX2_takeTree_10 : decode cX2_takeTree 10 = .ok (.ireturn, 1) := by decide +kernel
theorem dX2_takeTree_11 : decode cX2_takeTree 11 = .ok (.aload_n 0, 1) := by decide +kernel
theorem dX2_takeTree_12 : decode cX2_takeTree 12 = .ok (.iconst 5, 1) := by decide +kernel
theorem dX2_takeTree_13 : decode cX2_takeTree 13 = .ok (.invokevirtual 65, 3) := by decide +kernel
theorem dX2_takeTree_16 : decode cX2_takeTree 16 = .ok (.istore_n 3, 1) := by decide +kernel
theorem dX2_takeTree_17 : decode cX2_takeTree 17 = .ok (.iload_n 3, 1) := by decide +kernel
theorem dX2_takeTree_18 : decode cX2_takeTree 18 = .ok (.ifCond .ge 5, 3) := by decide +kernel
theorem dX2_takeTree_21 : decode cX2_takeTree 21 = .ok (.iconst 0, 1) := by decide +kernel
theorem dX2_takeTree_22 : decode cX2_takeTree 22 = .ok (.ireturn, 1) := by decide +kernel
theorem dX2_takeTree_23 : decode cX2_takeTree 23 = .ok (.aload_n 0, 1) := by decide +kernel
theorem dX2_takeTree_24 : decode cX2_takeTree 24 = .ok (.iconst 1, 1) := by decide +kernel
theorem dX2_takeTree_25 : decode cX2_takeTree 25 = .ok (.invokevirtual 65, 3) := by decide +kernel
theorem dX2_takeTree_28 : decode cX2_takeTree 28 = .ok (.istore 4, 2) := by decide +kernel
theorem dX2_takeTree_30 : decode cX2_takeTree 30 = .ok (.iload 4, 2) := by decide +kernel
theorem dX2_takeTree_32 : decode cX2_takeTree 32 = .ok (.ifCond .ge 5, 3) := by decide +kernel
theorem dX2_takeTree_35 : decode cX2_takeTree 35 = .ok (.iconst 0, 1) := by decide +kernel
theorem dX2_takeTree_36 : decode cX2_takeTree 36 = .ok (.ireturn, 1) := by decide +kernel
theorem dX2_takeTree_37 : decode cX2_takeTree 37 = .ok (.iconst 0, 1) := by decide +kernel
theorem dX2_takeTree_38 : decode cX2_takeTree 38 = .ok (.istore 5, 2) := by decide +kernel
theorem dX2_takeTree_40 : decode cX2_takeTree 40 = .ok (.aload_n 0, 1) := by decide +kernel
theorem dX2_takeTree_41 : decode cX2_takeTree 41 = .ok (.ldc 69, 2) := by decide +kernel
theorem dX2_takeTree_43 : decode cX2_takeTree 43 = .ok (.invokevirtual 42, 3) := by decide +kernel
theorem dX2_takeTree_46 : decode cX2_takeTree 46 = .ok (.ifCond .eq 19, 3) := by decide +kernel
theorem dX2_takeTree_49 : decode cX2_takeTree 49 = .ok (.aload_n 0, 1) := by decide +kernel
theorem dX2_takeTree_50 : decode cX2_takeTree 50 = .ok (.sipush 999, 3) := by decide +kernel
theorem dX2_takeTree_53 : decode cX2_takeTree 53 = .ok (.invokevirtual 65, 3) := by decide +kernel
theorem dX2_takeTree_56 : decode cX2_takeTree 56 = .ok (.istore 5, 2) := by decide +kernel
theorem dX2_takeTree_58 : decode cX2_takeTree 58 = .ok (.iload 5, 2) := by decide +kernel
theorem dX2_takeTree_60 : decode cX2_takeTree 60 = .ok (.ifCond .ge 5, 3) := by decide +kernel
theorem dX2_takeTree_63 : decode cX2_takeTree 63 = .ok (.iconst 0, 1) := by decide +kernel
theorem dX2_takeTree_64 : decode cX2_takeTree 64 = .ok (.ireturn, 1) := by decide +kernel
theorem dX2_takeTree_65 : decode cX2_takeTree 65 = .ok (.aload_n 1, 1) := by decide +kernel
theorem dX2_takeTree_66 : decode cX2_takeTree 66 = .ok (.iload_n 3, 1) := by decide +kernel
theorem dX2_takeTree_67 : decode cX2_takeTree 67 = .ok (.iload 4, 2) := by decide +kernel
theorem dX2_takeTree_69 : decode cX2_takeTree 69 = .ok (.invokestatic 71, 3) := by decide +kernel
theorem dX2_takeTree_72 : decode cX2_takeTree 72 = .ok (.iload_n 2, 1) := by decide +kernel
theorem dX2_takeTree_73 : decode cX2_takeTree 73 = .ok (.iload 5, 2) := by decide +kernel
theorem dX2_takeTree_75 : decode cX2_takeTree 75 = .ok (.invokevirtual 75, 3) := by decide +kernel
theorem dX2_takeTree_78 : decode cX2_takeTree 78 = .ok (.iconst 1, 1) := by decide +kernel
theorem dX2_takeTree_79 : decode cX2_takeTree 79 = .ok (.ireturn, 1) := by decide +kernel
set_option maxRecDepth 20000 in
theorem ggX2_takePair_X2_takeNumber : GoodIn wsX2_takePair wsX2_takeNumber := goodIn_r _ [5, 6, 7, 8, 9, 10, 4, 11, 12, 13, 14, 15, 16, 17, 18, 19, 20, 21, 22, 23, 24, 25, 32, 33, 34, 35, 36, 37] (by decide +kernel) (by decide +kernel)
set_option maxRecDepth 20000 in
theorem gX2_takePair_X2_takeNumber : GoodIn wsX2_takePair (wsV RX2 65 RX2 yX2_takeNumber wsX2_takeNumber) := goodIn_app (goodIn_of _ (by decide +kernel)) ggX2_takePair_X2_takeNumber
set_option maxRecDepth 20000 in
theorem ggX2_takePair_X0_setIntroduced : GoodIn wsX2_takePair wsX0_setIntroduced := goodIn_r _ [30, 31, 38, 39, 40, 41, 42, 43] (by decide +kernel) (by decide +kernel)
set_option maxRecDepth 20000 in
theorem gX2_takePair_X0_setIntroduced : GoodIn wsX2_takePair (wsV RX2 81 RX0 yX0_setIntroduced wsX0_setIntroduced) := goodIn_app (goodIn_of _ (by decide +kernel)) ggX2_takePair_X0_setIntroduced
theorem dX2_takePair_0 : decode cX2_takePair 0 = .ok (.aload_n 0, 1) := by decide +kernel
theorem dX2_takePair_1 : decode cX2_takePair 1 = .ok (.iconst 5, 1) := by decide +kernel
theorem dX2_takePair_2 : decode cX2_takePair 2 = .ok (.invokevirtual 65, 3) := by decide +kernel
theorem dX2_takePair_5 : decode cX2_takePair 5 = .ok (.istore_n 3, 1) := by decide +kernel
theorem dX2_takePair_6 : decode cX2_takePair 6 = .ok (.iload_n 3, 1) := by decide +kernel
theorem dX2_takePair_7 : decode cX2_takePair 7 = .ok (.ifCond .ge 5, 3) := by decide +kernel
theorem dX2_takePair_10 : decode cX2_takePair 10 = .ok (.iconst 0, 1) := by decide +kernel
theorem dX2_takePair_11 : decode cX2_takePair 11 = .ok (.ireturn, 1) := by decide +kernel
theorem dX2_takePair_12 : decode cX2_takePair 12 = .ok (.aload_n 1, 1) := by decide +kernel
theorem dX2_takePair_13 : decode cX2_takePair 13 = .ok (.iload_n 3, 1) := by decide +kernel
theorem dX2_takePair_14 : decode cX2_takePair 14 = .ok (.iload_n 2, 1) := by decide +kernel
theorem dX2_takePair_15 : decode cX2_takePair 15 = .ok (.invokevirtual 81, 3) := by decide +kernel
theorem dX2_takePair_18 : decode cX2_takePair 18 = .ok (.iconst 1, 1) := by decide +kernel
theorem dX2_takePair_19 : decode cX2_takePair 19 = .ok (.ireturn, 1) := by decide +kernel
set_option maxRecDepth 20000 in
theorem ggX2_takeMessage_X2_takeNumber : GoodIn wsX2_takeMessage wsX2_takeNumber := goodIn_r _ [5, 6, 7, 8, 9, 10, 4, 11, 12, 13, 14, 15, 16, 17, 18, 19, 20, 21, 22, 23, 24, 25, 41, 42, 43, 44, 45, 46] (by decide +kernel) (by decide +kernel)
set_option maxRecDepth 20000 in
theorem gX2_takeMessage_X2_takeNumber : GoodIn wsX2_takeMessage (wsV RX2 65 RX2 yX2_takeNumber wsX2_takeNumber) := goodIn_app (goodIn_of _ (by decide +kernel)) ggX2_takeMessage_X2_takeNumber
set_option maxRecDepth 20000 in
theorem ggX2_takeMessage_X3_treeAt : GoodIn wsX2_takeMessage wsX3_treeAt := goodIn_r _ [28] (by decide +kernel) (by decide +kernel)
set_option maxRecDepth 20000 in
theorem gX2_takeMessage_X3_treeAt_n71 : GoodIn wsX2_takeMessage (wsX3_treeAt) := ggX2_takeMessage_X3_treeAt
set_option maxRecDepth 20000 in
theorem ggX2_takeMessage_X0_knows : GoodIn wsX2_takeMessage wsX0_knows := goodIn_r _ [33, 34, 47, 48, 49, 50, 51, 52] (by decide +kernel) (by decide +kernel)
set_option maxRecDepth 20000 in
theorem gX2_takeMessage_X0_knows : GoodIn wsX2_takeMessage (wsV RX2 85 RX0 yX0_knows wsX0_knows) := goodIn_app (goodIn_of _ (by decide +kernel)) ggX2_takeMessage_X0_knows
set_option maxRecDepth 20000 in
theorem ggX2_takeMessage_X0_learn : GoodIn wsX2_takeMessage wsX0_learn := goodIn_r _ [38, 34, 39, 40, 47, 48, 49, 50, 51, 52] (by decide +kernel) (by decide +kernel)
set_option maxRecDepth 20000 in
theorem gX2_takeMessage_X0_learn : GoodIn wsX2_takeMessage (wsV RX2 89 RX0 yX0_learn wsX0_learn) := goodIn_app (goodIn_of _ (by decide +kernel)) ggX2_takeMessage_X0_learn
theorem dX2_takeMessage_0 : decode cX2_takeMessage 0 = .ok (.aload_n 0, 1) := by decide +kernel
theorem dX2_takeMessage_1 : decode cX2_takeMessage 1 = .ok (.bipush 7, 2) := by decide +kernel
theorem dX2_takeMessage_3 : decode cX2_takeMessage 3 = .ok (.invokevirtual 65, 3) := by decide +kernel
theorem dX2_takeMessage_6 : decode cX2_takeMessage 6 = .ok (.istore_n 2, 1) := by decide +kernel
theorem dX2_takeMessage_7 : decode cX2_takeMessage 7 = .ok (.iload_n 2, 1) := by decide +kernel
theorem dX2_takeMessage_8 : decode cX2_takeMessage 8 = .ok (.ifCond .ge 5, 3) := by decide +kernel
theorem dX2_takeMessage_11 : decode cX2_takeMessage 11 = .ok (.iconst 0, 1) := by decide +kernel
theorem dX2_takeMessage_12 : decode cX2_takeMessage 12 = .ok (.ireturn, 1) := by decide +kernel
theorem dX2_takeMessage_13 : decode cX2_takeMessage 13 = .ok (.aload_n 0, 1) := by decide +kernel
theorem dX2_takeMessage_14 : decode cX2_takeMessage 14 = .ok (.iconst 1, 1) := by decide +kernel
theorem dX2_takeMessage_15 : decode cX2_takeMessage 15 = .ok (.invokevirtual 65, 3) := by decide +kernel
theorem dX2_takeMessage_18 : decode cX2_takeMessage 18 = .ok (.istore_n 3, 1) := by decide +kernel
theorem dX2_takeMessage_19 : decode cX2_takeMessage 19 = .ok (.iload_n 3, 1) := by decide +kernel
theorem dX2_takeMessage_20 : decode cX2_takeMessage 20 = .ok (.ifCond .ge 5, 3) := by decide +kernel
theorem dX2_takeMessage_23 : decode cX2_takeMessage 23 = .ok (.iconst 0, 1) := by decide +kernel
theorem dX2_takeMessage_24 : decode cX2_takeMessage 24 = .ok (.ireturn, 1) := by decide +kernel
theorem dX2_takeMessage_25 : decode cX2_takeMessage 25 = .ok (.aload_n 1, 1) := by decide +kernel
theorem dX2_takeMessage_26 : decode cX2_takeMessage 26 = .ok (.iconst 0, 1) := by decide +kernel
theorem dX2_takeMessage_27 : decode cX2_takeMessage 27 = .ok (.iload_n 3, 1) := by decide +kernel
theorem dX2_takeMessage_28 : decode cX2_takeMessage 28 = .ok (.invokestatic 71, 3) := by decide +kernel
theorem dX2_takeMessage_31 : decode cX2_takeMessage 31 = .ok (.iload_n 2, 1) := by decide +kernel
theorem dX2_takeMessage_32 : decode cX2_takeMessage 32 = .ok (.invokevirtual 85, 3) := by decide +kernel
theorem dX2_takeMessage_35 : decode cX2_takeMessage 35 = .ok (.ifCond .ne 13, 3) := by decide +kernel
theorem dX2_takeMessage_38 : decode cX2_takeMessage 38 = .ok (.aload_n 1, 1) := by decide +kernel
theorem dX2_takeMessage_39 : decode cX2_takeMessage 39 = .ok (.iconst 0, 1) := by decide +kernel
theorem dX2_takeMessage_40 : decode cX2_takeMessage 40 = .ok (.iload_n 3, 1) := by decide +kernel
theorem dX2_takeMessage_41 : decode cX2_takeMessage 41 = .ok (.invokestatic 71, 3) := by decide +kernel
theorem dX2_takeMessage_44 : decode cX2_takeMessage 44 = .ok (.iload_n 2, 1) := by decide +kernel
theorem dX2_takeMessage_45 : decode cX2_takeMessage 45 = .ok (.invokevirtual 89, 3) := by decide +kernel
theorem dX2_takeMessage_48 : decode cX2_takeMessage 48 = .ok (.iconst 1, 1) := by decide +kernel
theorem dX2_takeMessage_49 : decode cX2_takeMessage 49 = .ok (.ireturn, 1) := by decide +kernel
theorem dX2_nameOf_0 : decode cX2_nameOf 0 = .ok (.iload_n 0, 1) := by decide +kernel
theorem dX2_nameOf_1 : decode cX2_nameOf 1 = .ok (.tableswitch 50 1 5 #[35, 38, 41, 44, 47], 35) := by decide +kernel
theorem dX2_nameOf_36 : decode cX2_nameOf 36 = .ok (.ldc 93, 2) := by decide +kernel
theorem dX2_nameOf_38 : decode cX2_nameOf 38 = .ok (.areturn, 1) := by decide +kernel
theorem dX2_nameOf_39 : decode cX2_nameOf 39 = .ok (.ldc 95, 2) := by decide +kernel
theorem dX2_nameOf_41 : decode cX2_nameOf 41 = .ok (.areturn, 1) := by decide +kernel
theorem dX2_nameOf_42 : decode cX2_nameOf 42 = .ok (.ldc 97, 2) := by decide +kernel
theorem dX2_nameOf_44 : decode cX2_nameOf 44 = .ok (.areturn, 1) := by decide +kernel
theorem dX2_nameOf_45 : decode cX2_nameOf 45 = .ok (.ldc 99, 2) := by decide +kernel
theorem dX2_nameOf_47 : decode cX2_nameOf 47 = .ok (.areturn, 1) := by decide +kernel
theorem dX2_nameOf_48 : decode cX2_nameOf 48 = .ok (.ldc 101, 2) := by decide +kernel
theorem dX2_nameOf_50 : decode cX2_nameOf 50 = .ok (.areturn, 1) := by decide +kernel
theorem dX2_nameOf_51 : decode cX2_nameOf 51 = .ok (.ldc 103, 2) := by decide +kernel
theorem dX2_nameOf_53 : decode cX2_nameOf 53 = .ok (.areturn, 1) := by decide +kernel
set_option maxRecDepth 20000 in
theorem ggX2_takeWord_J0_length_8abf5 : GoodIn wsX2_takeWord wsJ0_length_8abf5 := goodIn_r _ [9, 10, 11, 12, 13, 8, 14, 15, 16] (by decide +kernel) (by decide +kernel)
set_option maxRecDepth 20000 in
theorem gX2_takeWord_J0_length_8abf5 : GoodIn wsX2_takeWord (wsV RX2 105 RJ0 yJ0_length_8abf5 wsJ0_length_8abf5) := goodIn_app (goodIn_of _ (by decide +kernel)) ggX2_takeWord_J0_length_8abf5
set_option maxRecDepth 20000 in
theorem ggX2_takeWord_J0_charAt_5068e : GoodIn wsX2_takeWord wsJ0_charAt_5068e := goodIn_r _ [20, 10, 21, 22, 23, 8, 24, 15, 16, 25, 26, 27, 28, 29, 30, 31, 32, 33, 34, 35, 36, 37, 38, 39, 40, 41, 42, 43, 44, 45, 46, 47, 48, 49, 50, 51, 52, 53] (by decide +kernel) (by decide +kernel)
set_option maxRecDepth 20000 in
theorem gX2_takeWord_J0_charAt_5068e : GoodIn wsX2_takeWord (wsV RX2 110 RJ0 yJ0_charAt_5068e wsJ0_charAt_5068e) := goodIn_app (goodIn_of _ (by decide +kernel)) ggX2_takeWord_J0_charAt_5068e
set_option maxRecDepth 20000 in
theorem ggX2_takeWord_X2_advance : GoodIn wsX2_takeWord wsX2_advance := goodIn_r _ [58, 2, 3, 59, 4, 1, 60, 61, 62, 63, 64, 65, 66, 57, 67, 68, 69, 70, 71, 72, 73, 74, 75, 76] (by decide +kernel) (by decide +kernel)
set_option maxRecDepth 20000 in
theorem gX2_takeWord_X2_advance : GoodIn wsX2_takeWord (wsV RX2 31 RX2 yX2_advance wsX2_advance) := goodIn_app (goodIn_of _ (by decide +kernel)) ggX2_takeWord_X2_advance
theorem dX2_takeWord_0 : decode cX2_takeWord 0 = .ok (.aload_n 0, 1) := by decide +kernel
theorem dX2_takeWord_1 : decode cX2_takeWord 1 = .ok (.getfield 25, 3) := by decide +kernel
theorem dX2_takeWord_4 : decode cX2_takeWord 4 = .ok (.iconst 1, 1) := by decide +kernel
theorem dX2_takeWord_5 : decode cX2_takeWord 5 = .ok (.if_icmp .ne 19, 3) := by decide +kernel
theorem dX2_takeWord_8 : decode cX2_takeWord 8 = .ok (.aload_n 0, 1) := by decide +kernel
theorem dX2_takeWord_9 : decode cX2_takeWord 9 = .ok (.getfield 22, 3) := by decide +kernel
theorem dX2_takeWord_12 : decode cX2_takeWord 12 = .ok (.aload_n 0, 1) := by decide +kernel
theorem dX2_takeWord_13 : decode cX2_takeWord 13 = .ok (.getfield 19, 3) := by decide +kernel
theorem dX2_takeWord_16 : decode cX2_takeWord 16 = .ok (.isub, 1) := by decide +kernel
theorem dX2_takeWord_17 : decode cX2_takeWord 17 = .ok (.aload_n 1, 1) := by decide +kernel
theorem dX2_takeWord_18 : decode cX2_takeWord 18 = .ok (.invokevirtual 105, 3) := by decide +kernel
theorem dX2_takeWord_21 : decode cX2_takeWord 21 = .ok (.if_icmp .eq 5, 3) := by decide +kernel
theorem dX2_takeWord_24 : decode cX2_takeWord 24 = .ok (.iconst 0, 1) := by decide +kernel
theorem dX2_takeWord_25 : decode cX2_takeWord 25 = .ok (.ireturn, 1) := by decide +kernel
theorem dX2_takeWord_26 : decode cX2_takeWord 26 = .ok (.iconst 0, 1) := by decide +kernel
theorem dX2_takeWord_27 : decode cX2_takeWord 27 = .ok (.istore_n 2, 1) := by decide +kernel
theorem dX2_takeWord_28 : decode cX2_takeWord 28 = .ok (.iload_n 2, 1) := by decide +kernel
theorem dX2_takeWord_29 : decode cX2_takeWord 29 = .ok (.aload_n 1, 1) := by decide +kernel
theorem dX2_takeWord_30 : decode cX2_takeWord 30 = .ok (.invokevirtual 105, 3) := by decide +kernel
theorem dX2_takeWord_33 : decode cX2_takeWord 33 = .ok (.if_icmp .ge 30, 3) := by decide +kernel
theorem dX2_takeWord_36 : decode cX2_takeWord 36 = .ok (.aload_n 0, 1) := by decide +kernel
theorem dX2_takeWord_37 : decode cX2_takeWord 37 = .ok (.getfield 15, 3) := by decide +kernel
theorem dX2_takeWord_40 : decode cX2_takeWord 40 = .ok (.aload_n 0, 1) := by decide +kernel
theorem dX2_takeWord_41 : decode cX2_takeWord 41 = .ok (.getfield 19, 3) := by decide +kernel
theorem dX2_takeWord_44 : decode cX2_takeWord 44 = .ok (.iload_n 2, 1) := by decide +kernel
theorem dX2_takeWord_45 : decode cX2_takeWord 45 = .ok (.iadd, 1) := by decide +kernel
theorem dX2_takeWord_46 : decode cX2_takeWord 46 = .ok (.baload, 1) := by decide +kernel
theorem dX2_takeWord_47 : decode cX2_takeWord 47 = .ok (.aload_n 1, 1) := by decide +kernel
theorem dX2_takeWord_48 : decode cX2_takeWord 48 = .ok (.iload_n 2, 1) := by decide +kernel
theorem dX2_takeWord_49 : decode cX2_takeWord 49 = .ok (.invokevirtual 110, 3) := by decide +kernel
theorem dX2_takeWord_52 : decode cX2_takeWord 52 = .ok (.if_icmp .eq 5, 3) := by decide +kernel
theorem dX2_takeWord_55 : decode cX2_takeWord 55 = .ok (.iconst 0, 1) := by decide +kernel
theorem dX2_takeWord_56 : decode cX2_takeWord 56 = .ok (.ireturn, 1) := by decide +kernel
theorem dX2_takeWord_57 : decode cX2_takeWord 57 = .ok (.iinc 2 1, 3) := by decide +kernel
theorem dX2_takeWord_60 : decode cX2_takeWord 60 = .ok (.goto (-32), 3) := by decide +kernel
theorem dX2_takeWord_63 : decode cX2_takeWord 63 = .ok (.aload_n 0, 1) := by decide +kernel
theorem dX2_takeWord_64 : decode cX2_takeWord 64 = .ok (.invokevirtual 31, 3) := by decide +kernel
theorem dX2_takeWord_67 : decode cX2_takeWord 67 = .ok (.iconst 1, 1) := by decide +kernel
theorem dX2_takeWord_68 : decode cX2_takeWord 68 = .ok (.ireturn, 1) := by decide +kernel
set_option maxRecDepth 20000 in
theorem ggX2_takeNumber_X2_advance : GoodIn wsX2_takeNumber wsX2_advance := goodIn_r _ [7, 8, 9, 10, 11, 1, 2, 12, 13, 14, 15, 16, 17, 6, 18, 19, 20, 21, 22, 23, 24, 25, 26, 27] (by decide +kernel) (by decide +kernel)
set_option maxRecDepth 20000 in
theorem gX2_takeNumber_X2_advance : GoodIn wsX2_takeNumber (wsV RX2 31 RX2 yX2_advance wsX2_advance) := goodIn_app (goodIn_of _ (by decide +kernel)) ggX2_takeNumber_X2_advance
theorem dX2_takeNumber_0 : decode cX2_takeNumber 0 = .ok (.aload_n 0, 1) := by decide +kernel
theorem dX2_takeNumber_1 : decode cX2_takeNumber 1 = .ok (.getfield 25, 3) := by decide +kernel
theorem dX2_takeNumber_4 : decode cX2_takeNumber 4 = .ok (.iconst 2, 1) := by decide +kernel
theorem dX2_takeNumber_5 : decode cX2_takeNumber 5 = .ok (.if_icmp .ne 11, 3) := by decide +kernel
theorem dX2_takeNumber_8 : decode cX2_takeNumber 8 = .ok (.aload_n 0, 1) := by decide +kernel
theorem dX2_takeNumber_9 : decode cX2_takeNumber 9 = .ok (.getfield 28, 3) := by decide +kernel
theorem dX2_takeNumber_12 : decode cX2_takeNumber 12 = .ok (.iload_n 1, 1) := by decide +kernel
theorem dX2_takeNumber_13 : decode cX2_takeNumber 13 = .ok (.if_icmp .le 5, 3) := by decide +kernel
theorem dX2_takeNumber_16 : decode cX2_takeNumber 16 = .ok (.iconst (-1), 1) := by decide +kernel
theorem dX2_takeNumber_17 : decode cX2_takeNumber 17 = .ok (.ireturn, 1) := by decide +kernel
theorem dX2_takeNumber_18 : decode cX2_takeNumber 18 = .ok (.aload_n 0, 1) := by decide +kernel
theorem dX2_takeNumber_19 : decode cX2_takeNumber 19 = .ok (.getfield 28, 3) := by decide +kernel
theorem dX2_takeNumber_22 : decode cX2_takeNumber 22 = .ok (.istore_n 2, 1) := by decide +kernel
theorem dX2_takeNumber_23 : decode cX2_takeNumber 23 = .ok (.aload_n 0, 1) := by decide +kernel
theorem dX2_takeNumber_24 : decode cX2_takeNumber 24 = .ok (.invokevirtual 31, 3) := by decide +kernel
theorem dX2_takeNumber_27 : decode cX2_takeNumber 27 = .ok (.iload_n 2, 1) := by decide +kernel
theorem dX2_takeNumber_28 : decode cX2_takeNumber 28 = .ok (.ireturn, 1) := by decide +kernel
set_option maxRecDepth 20000 in
theorem ggX2_advance_X2_isLetter : GoodIn wsX2_advance wsX2_isLetter := goodIn_r _ [14] (by decide +kernel) (by decide +kernel)
set_option maxRecDepth 20000 in
theorem gX2_advance_X2_isLetter : GoodIn wsX2_advance (va_wsS RX2 114 yX2_isLetter wsX2_isLetter) := goodIn_app (goodIn_of _ (by decide +kernel)) ggX2_advance_X2_isLetter
set_option maxRecDepth 20000 in
theorem ggX2_advance_X2_isDigit : GoodIn wsX2_advance wsX2_isDigit := goodIn_r _ [17] (by decide +kernel) (by decide +kernel)
set_option maxRecDepth 20000 in
theorem gX2_advance_X2_isDigit : GoodIn wsX2_advance (va_wsS RX2 118 yX2_isDigit wsX2_isDigit) := goodIn_app (goodIn_of _ (by decide +kernel)) ggX2_advance_X2_isDigit
theorem dX2_advance_0 : decode cX2_advance 0 = .ok (.aload_n 0, 1) := by decide +kernel
theorem dX2_advance_1 : decode cX2_advance 1 = .ok (.aload_n 0, 1) := by decide +kernel
theorem dX2_advance_2 : decode cX2_advance 2 = .ok (.getfield 22, 3) := by decide +kernel
theorem dX2_advance_5 : decode cX2_advance 5 = .ok (.putfield 19, 3) := by decide +kernel
theorem dX2_advance_8 : decode cX2_advance 8 = .ok (.aload_n 0, 1) := by decide +kernel
theorem dX2_advance_9 : decode cX2_advance 9 = .ok (.getfield 19, 3) := by decide +kernel
theorem dX2_advance_12 : decode cX2_advance 12 = .ok (.aload_n 0, 1) := by decide +kernel
theorem dX2_advance_13 : decode cX2_advance 13 = .ok (.getfield 9, 3) := by decide +kernel
theorem dX2_advance_16 : decode cX2_advance 16 = .ok (.if_icmp .ge 30, 3) := by decide +kernel
theorem dX2_advance_19 : decode cX2_advance 19 = .ok (.aload_n 0, 1) := by decide +kernel
theorem dX2_advance_20 : decode cX2_advance 20 = .ok (.getfield 15, 3) := by decide +kernel
theorem dX2_advance_23 : decode cX2_advance 23 = .ok (.aload_n 0, 1) := by decide +kernel
theorem dX2_advance_24 : decode cX2_advance 24 = .ok (.getfield 19, 3) := by decide +kernel
theorem dX2_advance_27 : decode cX2_advance 27 = .ok (.baload, 1) := by decide +kernel
theorem dX2_advance_28 : decode cX2_advance 28 = .ok (.bipush 32, 2) := by decide +kernel
theorem dX2_advance_30 : decode cX2_advance 30 = .ok (.if_icmp .ne 16, 3) := by decide +kernel
theorem dX2_advance_33 : decode cX2_advance 33 = .ok (.aload_n 0, 1) := by decide +kernel
theorem dX2_advance_34 : decode cX2_advance 34 = .ok (.dup, 1) := by decide +kernel
theorem dX2_advance_35 : decode cX2_advance 35 = .ok (.getfield 19, 3) := by decide +kernel
theorem dX2_advance_38 : decode cX2_advance 38 = .ok (.iconst 1, 1) := by decide +kernel
theorem dX2_advance_39 : decode cX2_advance 39 = .ok (.iadd, 1) := by decide +kernel
theorem dX2_advance_40 : decode cX2_advance 40 = .ok (.putfield 19, 3) := by decide +kernel
theorem dX2_advance_43 : decode cX2_advance 43 = .ok (.goto (-35), 3) := by decide +kernel
theorem dX2_advance_46 : decode cX2_advance 46 = .ok (.aload_n 0, 1) := by decide +kernel
theorem dX2_advance_47 : decode cX2_advance 47 = .ok (.aload_n 0, 1) := by decide +kernel
theorem dX2_advance_48 : decode cX2_advance 48 = .ok (.getfield 19, 3) := by decide +kernel
theorem dX2_advance_51 : decode cX2_advance 51 = .ok (.putfield 22, 3) := by decide +kernel
theorem dX2_advance_54 : decode cX2_advance 54 = .ok (.aload_n 0, 1) := by decide +kernel
theorem dX2_advance_55 : decode cX2_advance 55 = .ok (.getfield 19, 3) := by decide +kernel
theorem dX2_advance_58 : decode cX2_advance 58 = .ok (.aload_n 0, 1) := by decide +kernel
theorem dX2_advance_59 : decode cX2_advance 59 = .ok (.getfield 9, 3) := by decide +kernel
theorem dX2_advance_62 : decode cX2_advance 62 = .ok (.if_icmp .lt 11, 3) := by decide +kernel
theorem dX2_advance_65 : decode cX2_advance 65 = .ok (.aload_n 0, 1) := by decide +kernel
theorem dX2_advance_66 : decode cX2_advance 66 = .ok (.iconst 0, 1) := by decide +kernel
theorem dX2_advance_67 : decode cX2_advance 67 = .ok (.putfield 25, 3) := by decide +kernel
theorem dX2_advance_70 : decode cX2_advance 70 = .ok (.goto 189, 3) := by decide +kernel
theorem dX2_advance_73 : decode cX2_advance 73 = .ok (.aload_n 0, 1) := by decide +kernel
theorem dX2_advance_74 : decode cX2_advance 74 = .ok (.getfield 15, 3) := by decide +kernel
theorem dX2_advance_77 : decode cX2_advance 77 = .ok (.aload_n 0, 1) := by decide +kernel
theorem dX2_advance_78 : decode cX2_advance 78 = .ok (.getfield 19, 3) := by decide +kernel
theorem dX2_advance_81 : decode cX2_advance 81 = .ok (.baload, 1) := by decide +kernel
theorem dX2_advance_82 : decode cX2_advance 82 = .ok (.invokestatic 114, 3) := by decide +kernel
theorem dX2_advance_85 : decode cX2_advance 85 = .ok (.ifCond .eq 47, 3) := by decide +kernel
theorem dX2_advance_88 : decode cX2_advance 88 = .ok (.aload_n 0, 1) := by decide +kernel
theorem dX2_advance_89 : decode cX2_advance 89 = .ok (.iconst 1, 1) := by decide +kernel
theorem dX2_advance_90 : decode cX2_advance 90 = .ok (.putfield 25, 3) := by decide +kernel
theorem dX2_advance_93 : decode cX2_advance 93 = .ok (.aload_n 0, 1) := by decide +kernel
theorem dX2_advance_94 : decode cX2_advance 94 = .ok (.getfield 22, 3) := by decide +kernel
theorem dX2_advance_97 : decode cX2_advance 97 = .ok (.aload_n 0, 1) := by decide +kernel
theorem dX2_advance_98 : decode cX2_advance 98 = .ok (.getfield 9, 3) := by decide +kernel
theorem dX2_advance_101 : decode cX2_advance 101 = .ok (.if_icmp .ge 158, 3) := by decide +kernel
theorem dX2_advance_104 : decode cX2_advance 104 = .ok (.aload_n 0, 1) := by decide +kernel
theorem dX2_advance_105 : decode cX2_advance 105 = .ok (.getfield 15, 3) := by decide +kernel
theorem dX2_advance_108 : decode cX2_advance 108 = .ok (.aload_n 0, 1) := by decide +kernel
theorem dX2_advance_109 : decode cX2_advance 109 = .ok (.getfield 22, 3) := by decide +kernel
theorem dX2_advance_112 : decode cX2_advance 112 = .ok (.baload, 1) := by decide +kernel
theorem dX2_advance_113 : decode cX2_advance 113 = .ok (.invokestatic 114, 3) := by decide +kernel
theorem dX2_advance_116 : decode cX2_advance 116 = .ok (.ifCond .eq 143, 3) := by decide +kernel
theorem dX2_advance_119 : decode cX2_advance 119 = .ok (.aload_n 0, 1) := by decide +kernel
theorem dX2_advance_120 : decode cX2_advance 120 = .ok (.dup, 1) := by decide +kernel
theorem dX2_advance_121 : decode cX2_advance 121 = .ok (.getfield 22, 3) := by decide +kernel
theorem dX2_advance_124 : decode cX2_advance 124 = .ok (.iconst 1, 1) := by decide +kernel
theorem dX2_advance_125 : decode cX2_advance 125 = .ok (.iadd, 1) := by decide +kernel
theorem dX2_advance_126 : decode cX2_advance 126 = .ok (.putfield 22, 3) := by decide +kernel
theorem dX2_advance_129 : decode cX2_advance 129 = .ok (.goto (-36), 3) := by decide +kernel
theorem dX2_advance_132 : decode cX2_advance 132 = .ok (.aload_n 0, 1) := by decide +kernel
theorem dX2_advance_133 : decode cX2_advance 133 = .ok (.getfield 15, 3) := by decide +kernel
theorem dX2_advance_136 : decode cX2_advance 136 = .ok (.aload_n 0, 1) := by decide +kernel
theorem dX2_advance_137 : decode cX2_advance 137 = .ok (.getfield 19, 3) := by decide +kernel
theorem dX2_advance_140 : decode cX2_advance 140 = .ok (.baload, 1) := by decide +kernel
theorem dX2_advance_141 : decode cX2_advance 141 = .ok (.invokestatic 118, 3) := by decide +kernel
theorem dX2_advance_144 : decode cX2_advance 144 = .ok (.ifCond .eq 82, 3) := by decide +kernel
theorem dX2_advance_147 : decode cX2_advance 147 = .ok (.aload_n 0, 1) := by decide +kernel
theorem dX2_advance_148 : decode cX2_advance 148 = .ok (.iconst 2, 1) := by decide +kernel
theorem dX2_advance_149 : decode cX2_advance 149 = .ok (.putfield 25, 3) := by decide +kernel
theorem dX2_advance_152 : decode cX2_advance 152 = .ok (.aload_n 0, 1) := by decide +kernel
theorem dX2_advance_153 : decode cX2_advance 153 = .ok (.iconst 0, 1) := by decide +kernel
theorem dX2_advance_154 : decode cX2_advance 154 = .ok (.putfield 28, 3) := by decide +kernel
theorem dX2_advance_157 : decode cX2_advance 157 = .ok (.aload_n 0, 1) := by decide +kernel
theorem dX2_advance_158 : decode cX2_advance 158 = .ok (.getfield 22, 3) := by decide +kernel
theorem dX2_advance_161 : decode cX2_advance 161 = .ok (.aload_n 0, 1) := by decide +kernel
theorem dX2_advance_162 : decode cX2_advance 162 = .ok (.getfield 9, 3) := by decide +kernel
theorem dX2_advance_165 : decode cX2_advance 165 = .ok (.if_icmp .ge 94, 3) := by decide +kernel
theorem dX2_advance_168 : decode cX2_advance 168 = .ok (.aload_n 0, 1) := by decide +kernel
theorem dX2_advance_169 : decode cX2_advance 169 = .ok (.getfield 15, 3) := by decide +kernel
theorem dX2_advance_172 : decode cX2_advance 172 = .ok (.aload_n 0, 1) := by decide +kernel
theorem dX2_advance_173 : decode cX2_advance 173 = .ok (.getfield 22, 3) := by decide +kernel
theorem dX2_advance_176 : decode cX2_advance 176 = .ok (.baload, 1) := by decide +kernel
theorem dX2_advance_177 : decode cX2_advance 177 = .ok (.invokestatic 118, 3) := by decide +kernel
theorem dX2_advance_180 : decode cX2_advance 180 = .ok (.ifCond .eq 79, 3) := by decide +kernel
theorem dX2_advance_183 : decode cX2_advance 183 = .ok (.aload_n 0, 1) := by decide +kernel
theorem dX2_advance_184 : decode cX2_advance 184 = .ok (.bipush 10, 2) := by decide +kernel
theorem dX2_advance_186 : decode cX2_advance 186 = .ok (.aload_n 0, 1) := by decide +kernel
theorem dX2_advance_187 : decode cX2_advance 187 = .ok (.getfield 28, 3) := by decide +kernel
theorem dX2_advance_190 : decode cX2_advance 190 = .ok (.imul, 1) := by decide +kernel
theorem dX2_advance_191 : decode cX2_advance 191 = .ok (.aload_n 0, 1) := by decide +kernel
theorem dX2_advance_192 : decode cX2_advance 192 = .ok (.getfield 15, 3) := by decide +kernel
theorem dX2_advance_195 : decode cX2_advance 195 = .ok (.aload_n 0, 1) := by decide +kernel
theorem dX2_advance_196 : decode cX2_advance 196 = .ok (.getfield 22, 3) := by decide +kernel
theorem dX2_advance_199 : decode cX2_advance 199 = .ok (.baload, 1) := by decide +kernel
theorem dX2_advance_200 : decode cX2_advance 200 = .ok (.iadd, 1) := by decide +kernel
theorem dX2_advance_201 : decode cX2_advance 201 = .ok (.bipush 48, 2) := by decide +kernel
theorem dX2_advance_203 : decode cX2_advance 203 = .ok (.isub, 1) := by decide +kernel
theorem dX2_advance_204 : decode cX2_advance 204 = .ok (.sipush 1000, 3) := by decide +kernel
theorem dX2_advance_207 : decode cX2_advance 207 = .ok (.invokestatic 121, 3) := by decide +kernel
theorem dX2_advance_210 : decode cX2_advance 210 = .ok (.putfield 28, 3) := by decide +kernel
theorem dX2_advance_213 : decode cX2_advance 213 = .ok (.aload_n 0, 1) := by decide +kernel
theorem dX2_advance_214 : decode cX2_advance 214 = .ok (.dup, 1) := by decide +kernel
theorem dX2_advance_215 : decode cX2_advance 215 = .ok (.getfield 22, 3) := by decide +kernel
theorem dX2_advance_218 : decode cX2_advance 218 = .ok (.iconst 1, 1) := by decide +kernel
theorem dX2_advance_219 : decode cX2_advance 219 = .ok (.iadd, 1) := by decide +kernel
theorem dX2_advance_220 : decode cX2_advance 220 = .ok (.putfield 22, 3) := by decide +kernel
theorem dX2_advance_223 : decode cX2_advance 223 = .ok (.goto (-66), 3) := by decide +kernel
theorem dX2_advance_226 : decode cX2_advance 226 = .ok (.aload_n 0, 1) := by decide +kernel
theorem dX2_advance_227 : decode cX2_advance 227 = .ok (.aload_n 0, 1) := by decide +kernel
theorem dX2_advance_228 : decode cX2_advance 228 = .ok (.getfield 15, 3) := by decide +kernel
theorem dX2_advance_231 : decode cX2_advance 231 = .ok (.aload_n 0, 1) := by decide +kernel
theorem dX2_advance_232 : decode cX2_advance 232 = .ok (.getfield 19, 3) := by decide +kernel
theorem dX2_advance_235 : decode cX2_advance 235 = .ok (.baload, 1) := by decide +kernel
theorem dX2_advance_236 : decode cX2_advance 236 = .ok (.bipush 59, 2) := by decide +kernel
theorem dX2_advance_238 : decode cX2_advance 238 = .ok (.if_icmp .ne 7, 3) := by decide +kernel
theorem dX2_advance_241 : decode cX2_advance 241 = .ok (.iconst 3, 1) := by decide +kernel
theorem dX2_advance_242 : decode cX2_advance 242 = .ok (.goto 4, 3) := by decide +kernel
theorem dX2_advance_245 : decode cX2_advance 245 = .ok (.iconst 4, 1) := by decide +kernel
theorem dX2_advance_246 : decode cX2_advance 246 = .ok (.putfield 25, 3) := by decide +kernel
theorem dX2_advance_249 : decode cX2_advance 249 = .ok (.aload_n 0, 1) := by decide +kernel
theorem dX2_advance_250 : decode cX2_advance 250 = .ok (.aload_n 0, 1) := by decide +kernel
theorem dX2_advance_251 : decode cX2_advance 251 = .ok (.getfield 19, 3) := by decide +kernel
theorem dX2_advance_254 : decode cX2_advance 254 = .ok (.iconst 1, 1) := by decide +kernel
theorem dX2_advance_255 : decode cX2_advance 255 = .ok (.iadd, 1) := by decide +kernel
theorem dX2_advance_256 : decode cX2_advance 256 = .ok (.putfield 22, 3) := by decide +kernel
theorem dX2_advance_259 : decode cX2_advance 259 = .ok (.return_, 1) := by decide +kernel
theorem dX2_isLetter_0 : decode cX2_isLetter 0 = .ok (.iload_n 0, 1) := by decide +kernel
theorem dX2_isLetter_1 : decode cX2_isLetter 1 = .ok (.bipush 97, 2) := by decide +kernel
theorem dX2_isLetter_3 : decode cX2_isLetter 3 = .ok (.if_icmp .lt 13, 3) := by decide +kernel
theorem dX2_isLetter_6 : decode cX2_isLetter 6 = .ok (.iload_n 0, 1) := by decide +kernel
theorem dX2_isLetter_7 : decode cX2_isLetter 7 = .ok (.bipush 122, 2) := by decide +kernel
theorem dX2_isLetter_9 : decode cX2_isLetter 9 = .ok (.if_icmp .gt 7, 3) := by decide +kernel
theorem dX2_isLetter_12 : decode cX2_isLetter 12 = .ok (.iconst 1, 1) := by decide +kernel
theorem dX2_isLetter_13 : decode cX2_isLetter 13 = .ok (.goto 4, 3) := by decide +kernel
theorem dX2_isLetter_16 : decode cX2_isLetter 16 = .ok (.iconst 0, 1) := by decide +kernel
theorem dX2_isLetter_17 : decode cX2_isLetter 17 = .ok (.ireturn, 1) := by decide +kernel
theorem dX2_isDigit_0 : decode cX2_isDigit 0 = .ok (.iload_n 0, 1) := by decide +kernel
theorem dX2_isDigit_1 : decode cX2_isDigit 1 = .ok (.bipush 48, 2) := by decide +kernel
theorem dX2_isDigit_3 : decode cX2_isDigit 3 = .ok (.if_icmp .lt 13, 3) := by decide +kernel
theorem dX2_isDigit_6 : decode cX2_isDigit 6 = .ok (.iload_n 0, 1) := by decide +kernel
theorem dX2_isDigit_7 : decode cX2_isDigit 7 = .ok (.bipush 57, 2) := by decide +kernel
theorem dX2_isDigit_9 : decode cX2_isDigit 9 = .ok (.if_icmp .gt 7, 3) := by decide +kernel
theorem dX2_isDigit_12 : decode cX2_isDigit 12 = .ok (.iconst 1, 1) := by decide +kernel
theorem dX2_isDigit_13 : decode cX2_isDigit 13 = .ok (.goto 4, 3) := by decide +kernel
theorem dX2_isDigit_16 : decode cX2_isDigit 16 = .ok (.iconst 0, 1) := by decide +kernel
theorem dX2_isDigit_17 : decode cX2_isDigit 17 = .ok (.ireturn, 1) := by decide +kernel
set_option maxRecDepth 20000 in
theorem ggX3_init_X0_init : GoodIn wsX3_init wsX0_init := goodIn_r _ [25, 26, 2, 3, 27, 28, 11, 29, 30, 31, 32, 33, 34, 35, 36, 54, 55, 56, 57, 58, 59] (by decide +kernel) (by decide +kernel)
set_option maxRecDepth 20000 in
theorem gX3_init_X0_init : GoodIn wsX3_init (wsX0_init) := ggX3_init_X0_init
set_option maxRecDepth 20000 in
theorem ggX3_init_X2_init : GoodIn wsX3_init wsX2_init := goodIn_r _ [38, 39, 2, 3, 40, 41, 42, 43, 44, 45, 46, 69, 70, 71, 72, 73, 74] (by decide +kernel) (by decide +kernel)
set_option maxRecDepth 20000 in
theorem gX3_init_X2_init_n31 : GoodIn wsX3_init (wsX2_init) := ggX3_init_X2_init
set_option maxRecDepth 20000 in
theorem ggX3_init_X1_init : GoodIn wsX3_init wsX1_init := goodIn_r _ [48, 49, 2, 3, 50, 51, 52, 53, 75, 76, 77] (by decide +kernel) (by decide +kernel)
set_option maxRecDepth 20000 in
theorem gX3_init_X1_init_n49 : GoodIn wsX3_init (wsX1_init) := ggX3_init_X1_init
theorem dX3_init_0 : decode cX3_init 0 = .ok (.aload_n 0, 1) := by decide +kernel
theorem dX3_init_1 : decode cX3_init 1 = .ok (.invokespecial 3, 3) := by decide +kernel
theorem dX3_init_4 : decode cX3_init 4 = .ok (.aload_n 0, 1) := by decide +kernel
theorem dX3_init_5 : decode cX3_init 5 = .ok (.new 9, 3) := by decide +kernel
theorem dX3_init_8 : decode cX3_init 8 = .ok (.dup, 1) := by decide +kernel
theorem dX3_init_9 : decode cX3_init 9 = .ok (.invokespecial 11, 3) := by decide +kernel
theorem dX3_init_12 : decode cX3_init 12 = .ok (.putfield 12, 3) := by decide +kernel
theorem dX3_init_15 : decode cX3_init 15 = .ok (.aload_n 0, 1) := by decide +kernel
theorem dX3_init_16 : decode cX3_init 16 = .ok (.new 9, 3) := by decide +kernel
theorem dX3_init_19 : decode cX3_init 19 = .ok (.dup, 1) := by decide +kernel
theorem dX3_init_20 : decode cX3_init 20 = .ok (.invokespecial 11, 3) := by decide +kernel
theorem dX3_init_23 : decode cX3_init 23 = .ok (.putfield 16, 3) := by decide +kernel
theorem dX3_init_26 : decode cX3_init 26 = .ok (.aload_n 0, 1) := by decide +kernel
theorem dX3_init_27 : decode cX3_init 27 = .ok (.new 9, 3) := by decide +kernel
theorem dX3_init_30 : decode cX3_init 30 = .ok (.dup, 1) := by decide +kernel
theorem dX3_init_31 : decode cX3_init 31 = .ok (.invokespecial 11, 3) := by decide +kernel
theorem dX3_init_34 : decode cX3_init 34 = .ok (.putfield 19, 3) := by decide +kernel
theorem dX3_init_37 : decode cX3_init 37 = .ok (.aload_n 0, 1) := by decide +kernel
theorem dX3_init_38 : decode cX3_init 38 = .ok (.new 9, 3) := by decide +kernel
theorem dX3_init_41 : decode cX3_init 41 = .ok (.dup, 1) := by decide +kernel
theorem dX3_init_42 : decode cX3_init 42 = .ok (.invokespecial 11, 3) := by decide +kernel
theorem dX3_init_45 : decode cX3_init 45 = .ok (.putfield 22, 3) := by decide +kernel
theorem dX3_init_48 : decode cX3_init 48 = .ok (.aload_n 0, 1) := by decide +kernel
theorem dX3_init_49 : decode cX3_init 49 = .ok (.bipush 12, 2) := by decide +kernel
theorem dX3_init_51 : decode cX3_init 51 = .ok (.newarray .int, 2) := by decide +kernel
theorem dX3_init_53 : decode cX3_init 53 = .ok (.putfield 25, 3) := by decide +kernel
theorem dX3_init_56 : decode cX3_init 56 = .ok (.aload_n 0, 1) := by decide +kernel
theorem dX3_init_57 : decode cX3_init 57 = .ok (.new 29, 3) := by decide +kernel
theorem dX3_init_60 : decode cX3_init 60 = .ok (.dup, 1) := by decide +kernel
theorem dX3_init_61 : decode cX3_init 61 = .ok (.invokespecial 31, 3) := by decide +kernel
theorem dX3_init_64 : decode cX3_init 64 = .ok (.putfield 32, 3) := by decide +kernel
theorem dX3_init_67 : decode cX3_init 67 = .ok (.aload_n 0, 1) := by decide +kernel
theorem dX3_init_68 : decode cX3_init 68 = .ok (.iconst 4, 1) := by decide +kernel
theorem dX3_init_69 : decode cX3_init 69 = .ok (.anewarray 36, 3) := by decide +kernel
theorem dX3_init_72 : decode cX3_init 72 = .ok (.putfield 38, 3) := by decide +kernel
theorem dX3_init_75 : decode cX3_init 75 = .ok (.aload_n 0, 1) := by decide +kernel
theorem dX3_init_76 : decode cX3_init 76 = .ok (.bipush 7, 2) := by decide +kernel
theorem dX3_init_78 : decode cX3_init 78 = .ok (.newarray .int, 2) := by decide +kernel
theorem dX3_init_80 : decode cX3_init 80 = .ok (.putfield 42, 3) := by decide +kernel
theorem dX3_init_83 : decode cX3_init 83 = .ok (.aload_n 0, 1) := by decide +kernel
theorem dX3_init_84 : decode cX3_init 84 = .ok (.iconst 0, 1) := by decide +kernel
theorem dX3_init_85 : decode cX3_init 85 = .ok (.putfield 45, 3) := by decide +kernel
theorem dX3_init_88 : decode cX3_init 88 = .ok (.iconst 0, 1) := by decide +kernel
theorem dX3_init_89 : decode cX3_init 89 = .ok (.istore_n 1, 1) := by decide +kernel
theorem dX3_init_90 : decode cX3_init 90 = .ok (.iload_n 1, 1) := by decide +kernel
theorem dX3_init_91 : decode cX3_init 91 = .ok (.iconst 4, 1) := by decide +kernel
theorem dX3_init_92 : decode cX3_init 92 = .ok (.if_icmp .ge 22, 3) := by decide +kernel
theorem dX3_init_95 : decode cX3_init 95 = .ok (.aload_n 0, 1) := by decide +kernel
theorem dX3_init_96 : decode cX3_init 96 = .ok (.getfield 38, 3) := by decide +kernel
theorem dX3_init_99 : decode cX3_init 99 = .ok (.iload_n 1, 1) := by decide +kernel
theorem dX3_init_100 : decode cX3_init 100 = .ok (.new 36, 3) := by decide +kernel
theorem dX3_init_103 : decode cX3_init 103 = .ok (.dup, 1) := by decide +kernel
theorem dX3_init_104 : decode cX3_init 104 = .ok (.invokespecial 49, 3) := by decide +kernel
theorem dX3_init_107 : decode cX3_init 107 = .ok (.aastore, 1) := by decide +kernel
theorem dX3_init_108 : decode cX3_init 108 = .ok (.iinc 1 1, 3) := by decide +kernel
theorem dX3_init_111 : decode cX3_init 111 = .ok (.goto (-21), 3) := by decide +kernel
theorem dX3_init_114 : decode cX3_init 114 = .ok (.return_, 1) := by decide +kernel
set_option maxRecDepth 20000 in
theorem ggX3_of_X3_isTree : GoodIn wsX3_of wsX3_isTree := goodIn_r _ [8] (by decide +kernel) (by decide +kernel)
set_option maxRecDepth 20000 in
theorem gX3_of_X3_isTree : GoodIn wsX3_of (va_wsS RX3 50 yX3_isTree wsX3_isTree) := goodIn_app (goodIn_of _ (by decide +kernel)) ggX3_of_X3_isTree
set_option maxRecDepth 20000 in
theorem ggX3_of_X3_finding : GoodIn wsX3_of wsX3_finding := goodIn_r _ [12, 13, 14, 35, 36, 37, 38, 39, 40, 41, 42, 43] (by decide +kernel) (by decide +kernel)
set_option maxRecDepth 20000 in
theorem gX3_of_X3_finding : GoodIn wsX3_of (wsV RX3 54 RX3 yX3_finding wsX3_finding) := goodIn_app (goodIn_of _ (by decide +kernel)) ggX3_of_X3_finding
set_option maxRecDepth 20000 in
theorem ggX3_of_X0_leansOf : GoodIn wsX3_of wsX0_leansOf := goodIn_r _ [19, 20, 21, 22, 23, 24, 25, 44, 45, 46, 47, 48, 49] (by decide +kernel) (by decide +kernel)
set_option maxRecDepth 20000 in
theorem gX3_of_X0_leansOf : GoodIn wsX3_of (wsV RX3 64 RX0 yX0_leansOf wsX0_leansOf) := goodIn_app (goodIn_of _ (by decide +kernel)) ggX3_of_X0_leansOf
set_option maxRecDepth 20000 in
theorem ggX3_of_X0_nodsOf : GoodIn wsX3_of wsX0_nodsOf := goodIn_r _ [29, 25, 20, 44, 45, 46, 47, 48, 49] (by decide +kernel) (by decide +kernel)
set_option maxRecDepth 20000 in
theorem gX3_of_X0_nodsOf : GoodIn wsX3_of (wsV RX3 67 RX0 yX0_nodsOf wsX0_nodsOf) := goodIn_app (goodIn_of _ (by decide +kernel)) ggX3_of_X0_nodsOf
set_option maxRecDepth 20000 in
theorem ggX3_of_X0_hears : GoodIn wsX3_of wsX0_hears := goodIn_r _ [33, 25, 34, 20, 44, 45, 46, 47, 48, 49] (by decide +kernel) (by decide +kernel)
set_option maxRecDepth 20000 in
theorem gX3_of_X0_hears : GoodIn wsX3_of (wsV RX3 70 RX0 yX0_hears wsX0_hears) := goodIn_app (goodIn_of _ (by decide +kernel)) ggX3_of_X0_hears
theorem dX3_of_0 : decode cX3_of 0 = .ok (.iload_n 1, 1) := by decide +kernel
theorem dX3_of_1 : decode cX3_of 1 = .ok (.invokestatic 50, 3) := by decide +kernel
theorem dX3_of_4 : decode cX3_of 4 = .ok (.ifCond .ne 9, 3) := by decide +kernel
theorem dX3_of_7 : decode cX3_of 7 = .ok (.aload_n 0, 1) := by decide +kernel
theorem dX3_of_8 : decode cX3_of 8 = .ok (.iconst 0, 1) := by decide +kernel
theorem dX3_of_9 : decode cX3_of 9 = .ok (.invokevirtual 54, 3) := by decide +kernel
theorem dX3_of_12 : decode cX3_of 12 = .ok (.ireturn, 1) := by decide +kernel
theorem dX3_of_13 : decode cX3_of 13 = .ok (.iload_n 2, 1) := by decide +kernel
theorem dX3_of_14 : decode cX3_of 14 = .ok (.tableswitch 104 0 5 #[38, 48, 58, 67, 76, 94], 38) := by decide +kernel
theorem dX3_of_52 : decode cX3_of 52 = .ok (.aload_n 0, 1) := by decide +kernel
theorem dX3_of_53 : decode cX3_of 53 = .ok (.getfield 12, 3) := by decide +kernel
theorem dX3_of_56 : decode cX3_of 56 = .ok (.getfield 58, 3) := by decide +kernel
theorem dX3_of_59 : decode cX3_of 59 = .ok (.iload_n 1, 1) := by decide +kernel
theorem dX3_of_60 : decode cX3_of 60 = .ok (.iaload, 1) := by decide +kernel
theorem dX3_of_61 : decode cX3_of 61 = .ok (.ireturn, 1) := by decide +kernel
theorem dX3_of_62 : decode cX3_of 62 = .ok (.aload_n 0, 1) := by decide +kernel
theorem dX3_of_63 : decode cX3_of 63 = .ok (.getfield 12, 3) := by decide +kernel
theorem dX3_of_66 : decode cX3_of 66 = .ok (.getfield 61, 3) := by decide +kernel
theorem dX3_of_69 : decode cX3_of 69 = .ok (.iload_n 1, 1) := by decide +kernel
theorem dX3_of_70 : decode cX3_of 70 = .ok (.iaload, 1) := by decide +kernel
theorem dX3_of_71 : decode cX3_of 71 = .ok (.ireturn, 1) := by decide +kernel
theorem dX3_of_72 : decode cX3_of 72 = .ok (.aload_n 0, 1) := by decide +kernel
theorem dX3_of_73 : decode cX3_of 73 = .ok (.getfield 12, 3) := by decide +kernel
theorem dX3_of_76 : decode cX3_of 76 = .ok (.iload_n 1, 1) := by decide +kernel
theorem dX3_of_77 : decode cX3_of 77 = .ok (.invokevirtual 64, 3) := by decide +kernel
theorem dX3_of_80 : decode cX3_of 80 = .ok (.ireturn, 1) := by decide +kernel
theorem dX3_of_81 : decode cX3_of 81 = .ok (.aload_n 0, 1) := by decide +kernel
theorem dX3_of_82 : decode cX3_of 82 = .ok (.getfield 12, 3) := by decide +kernel
theorem dX3_of_85 : decode cX3_of 85 = .ok (.iload_n 1, 1) := by decide +kernel
theorem dX3_of_86 : decode cX3_of 86 = .ok (.invokevirtual 67, 3) := by decide +kernel
theorem dX3_of_89 : decode cX3_of 89 = .ok (.ireturn, 1) := by decide +kernel
theorem dX3_of_90 : decode cX3_of 90 = .ok (.aload_n 0, 1) := by decide +kernel
theorem dX3_of_91 : decode cX3_of 91 = .ok (.getfield 12, 3) := by decide +kernel
theorem dX3_of_94 : decode cX3_of 94 = .ok (.iload_n 1, 1) := by decide +kernel
theorem dX3_of_95 : decode cX3_of 95 = .ok (.iconst 0, 1) := by decide +kernel
theorem dX3_of_96 : decode cX3_of 96 = .ok (.invokevirtual 70, 3) := by decide +kernel
theorem dX3_of_99 : decode cX3_of 99 = .ok (.ifCond .eq 7, 3) := by decide +kernel
theorem dX3_of_102 : decode cX3_of 102 = .ok (.iconst 1, 1) := by decide +kernel
theorem dX3_of_103 : decode cX3_of 103 = .ok (.goto 4, 3) := by decide +kernel
theorem dX3_of_106 : decode cX3_of 106 = .ok (.iconst 0, 1) := by decide +kernel
theorem dX3_of_107 : decode cX3_of 107 = .ok (.ireturn, 1) := by decide +kernel
theorem dX3_of_108 : decode cX3_of 108 = .ok (.aload_n 0, 1) := by decide +kernel
theorem dX3_of_109 : decode cX3_of 109 = .ok (.getfield 12, 3) := by decide +kernel
theorem dX3_of_112 : decode cX3_of 112 = .ok (.getfield 74, 3) := by decide +kernel
theorem dX3_of_115 : decode cX3_of 115 = .ok (.iload_n 1, 1) := by decide +kernel
theorem dX3_of_116 : decode cX3_of 116 = .ok (.iaload, 1) := by decide +kernel
theorem dX3_of_117 : decode cX3_of 117 = .ok (.ireturn, 1) := by decide +kernel
theorem dX3_of_118 : decode cX3_of 118 = .ok (.aload_n 0, 1) := by decide +kernel
theorem dX3_of_119 : decode cX3_of 119 = .ok (.iconst 0, 1) := by decide +kernel
theorem dX3_of_120 : decode cX3_of 120 = .ok (.invokevirtual 54, 3) := by decide +kernel
theorem dX3_of_123 : decode cX3_of 123 = .ok (.ireturn, 1) := by decide +kernel
set_option maxRecDepth 20000 in
theorem ggX3_since_X3_isTree : GoodIn wsX3_since wsX3_isTree := goodIn_r _ [5] (by decide +kernel) (by decide +kernel)
set_option maxRecDepth 20000 in
theorem gX3_since_X3_isTree : GoodIn wsX3_since (va_wsS RX3 50 yX3_isTree wsX3_isTree) := goodIn_app (goodIn_of _ (by decide +kernel)) ggX3_since_X3_isTree
set_option maxRecDepth 20000 in
theorem ggX3_since_X3_isMessage : GoodIn wsX3_since wsX3_isMessage := goodIn_r _ [8] (by decide +kernel) (by decide +kernel)
set_option maxRecDepth 20000 in
theorem gX3_since_X3_isMessage : GoodIn wsX3_since (va_wsS RX3 77 yX3_isMessage wsX3_isMessage) := goodIn_app (goodIn_of _ (by decide +kernel)) ggX3_since_X3_isMessage
set_option maxRecDepth 20000 in
theorem ggX3_since_X3_finding : GoodIn wsX3_since wsX3_finding := goodIn_r _ [12, 13, 14, 26, 27, 28, 29, 30, 31, 32, 33, 34] (by decide +kernel) (by decide +kernel)
set_option maxRecDepth 20000 in
theorem gX3_since_X3_finding : GoodIn wsX3_since (wsV RX3 54 RX3 yX3_finding wsX3_finding) := goodIn_app (goodIn_of _ (by decide +kernel)) ggX3_since_X3_finding
set_option maxRecDepth 20000 in
theorem ggX3_since_X0_knows : GoodIn wsX3_since wsX0_knows := goodIn_r _ [19, 20, 35, 36, 37, 38, 39, 40] (by decide +kernel) (by decide +kernel)
set_option maxRecDepth 20000 in
theorem gX3_since_X0_knows : GoodIn wsX3_since (wsV RX3 80 RX0 yX0_knows wsX0_knows) := goodIn_app (goodIn_of _ (by decide +kernel)) ggX3_since_X0_knows
set_option maxRecDepth 20000 in
theorem ggX3_since_X0_learntWhen : GoodIn wsX3_since wsX0_learntWhen := goodIn_r _ [24, 25, 35, 36, 37, 38, 39, 40] (by decide +kernel) (by decide +kernel)
set_option maxRecDepth 20000 in
theorem gX3_since_X0_learntWhen : GoodIn wsX3_since (wsV RX3 84 RX0 yX0_learntWhen wsX0_learntWhen) := goodIn_app (goodIn_of _ (by decide +kernel)) ggX3_since_X0_learntWhen
theorem dX3_since_0 : decode cX3_since 0 = .ok (.iload_n 1, 1) := by decide +kernel
theorem dX3_since_1 : decode cX3_since 1 = .ok (.invokestatic 50, 3) := by decide +kernel
theorem dX3_since_4 : decode cX3_since 4 = .ok (.ifCond .eq 10, 3) := by decide +kernel
theorem dX3_since_7 : decode cX3_since 7 = .ok (.iload_n 2, 1) := by decide +kernel
theorem dX3_since_8 : decode cX3_since 8 = .ok (.invokestatic 77, 3) := by decide +kernel
theorem dX3_since_11 : decode cX3_since 11 = .ok (.ifCond .ne 9, 3) := by decide +kernel
theorem dX3_since_14 : decode cX3_since 14 = .ok (.aload_n 0, 1) := by decide +kernel
theorem dX3_since_15 : decode cX3_since 15 = .ok (.iconst 0, 1) := by decide +kernel
theorem dX3_since_16 : decode cX3_since 16 = .ok (.invokevirtual 54, 3) := by decide +kernel
theorem dX3_since_19 : decode cX3_since 19 = .ok (.ireturn, 1) := by decide +kernel
theorem dX3_since_20 : decode cX3_since 20 = .ok (.aload_n 0, 1) := by decide +kernel
theorem dX3_since_21 : decode cX3_since 21 = .ok (.getfield 12, 3) := by decide +kernel
theorem dX3_since_24 : decode cX3_since 24 = .ok (.iload_n 1, 1) := by decide +kernel
theorem dX3_since_25 : decode cX3_since 25 = .ok (.iload_n 2, 1) := by decide +kernel
theorem dX3_since_26 : decode cX3_since 26 = .ok (.invokevirtual 80, 3) := by decide +kernel
theorem dX3_since_29 : decode cX3_since 29 = .ok (.ifCond .ne 9, 3) := by decide +kernel
theorem dX3_since_32 : decode cX3_since 32 = .ok (.aload_n 0, 1) := by decide +kernel
theorem dX3_since_33 : decode cX3_since 33 = .ok (.iconst 3, 1) := by decide +kernel
theorem dX3_since_34 : decode cX3_since 34 = .ok (.invokevirtual 54, 3) := by decide +kernel
theorem dX3_since_37 : decode cX3_since 37 = .ok (.ireturn, 1) := by decide +kernel
theorem dX3_since_38 : decode cX3_since 38 = .ok (.aload_n 0, 1) := by decide +kernel
theorem dX3_since_39 : decode cX3_since 39 = .ok (.getfield 12, 3) := by decide +kernel
theorem dX3_since_42 : decode cX3_since 42 = .ok (.iload_n 1, 1) := by decide +kernel
theorem dX3_since_43 : decode cX3_since 43 = .ok (.iload_n 2, 1) := by decide +kernel
theorem dX3_since_44 : decode cX3_since 44 = .ok (.invokevirtual 84, 3) := by decide +kernel
theorem dX3_since_47 : decode cX3_since 47 = .ok (.ireturn, 1) := by decide +kernel
set_option maxRecDepth 20000 in
theorem ggX3_plant_X3_isTree : GoodIn wsX3_plant wsX3_isTree := goodIn_r _ [6] (by decide +kernel) (by decide +kernel)
set_option maxRecDepth 20000 in
theorem gX3_plant_X3_isTree : GoodIn wsX3_plant (va_wsS RX3 50 yX3_isTree wsX3_isTree) := goodIn_app (goodIn_of _ (by decide +kernel)) ggX3_plant_X3_isTree
set_option maxRecDepth 20000 in
theorem ggX3_plant_X3_isKind : GoodIn wsX3_plant wsX3_isKind := goodIn_r _ [9] (by decide +kernel) (by decide +kernel)
set_option maxRecDepth 20000 in
theorem gX3_plant_X3_isKind : GoodIn wsX3_plant (va_wsS RX3 88 yX3_isKind wsX3_isKind) := goodIn_app (goodIn_of _ (by decide +kernel)) ggX3_plant_X3_isKind
set_option maxRecDepth 20000 in
theorem ggX3_plant_X3_finding : GoodIn wsX3_plant wsX3_finding := goodIn_r _ [13, 14, 15, 24, 25, 26, 27, 28, 29, 30, 31, 32] (by decide +kernel) (by decide +kernel)
set_option maxRecDepth 20000 in
theorem gX3_plant_X3_finding : GoodIn wsX3_plant (wsV RX3 54 RX3 yX3_finding wsX3_finding) := goodIn_app (goodIn_of _ (by decide +kernel)) ggX3_plant_X3_finding
set_option maxRecDepth 20000 in
theorem ggX3_plant_X0_setAnew : GoodIn wsX3_plant wsX0_setAnew := goodIn_r _ [20, 21, 22, 23, 33, 34, 35, 36, 37, 38] (by decide +kernel) (by decide +kernel)
set_option maxRecDepth 20000 in
theorem gX3_plant_X0_setAnew : GoodIn wsX3_plant (wsV RX3 91 RX0 yX0_setAnew wsX0_setAnew) := goodIn_app (goodIn_of _ (by decide +kernel)) ggX3_plant_X0_setAnew
theorem dX3_plant_0 : decode cX3_plant 0 = .ok (.iload_n 1, 1) := by decide +kernel
theorem dX3_plant_1 : decode cX3_plant 1 = .ok (.invokestatic 50, 3) := by decide +kernel
theorem dX3_plant_4 : decode cX3_plant 4 = .ok (.ifCond .eq 10, 3) := by decide +kernel
theorem dX3_plant_7 : decode cX3_plant 7 = .ok (.iload_n 2, 1) := by decide +kernel
theorem dX3_plant_8 : decode cX3_plant 8 = .ok (.invokestatic 88, 3) := by decide +kernel
theorem dX3_plant_11 : decode cX3_plant 11 = .ok (.ifCond .ne 9, 3) := by decide +kernel
theorem dX3_plant_14 : decode cX3_plant 14 = .ok (.aload_n 0, 1) := by decide +kernel
theorem dX3_plant_15 : decode cX3_plant 15 = .ok (.iconst 0, 1) := by decide +kernel
theorem dX3_plant_16 : decode cX3_plant 16 = .ok (.invokevirtual 54, 3) := by decide +kernel
theorem dX3_plant_19 : decode cX3_plant 19 = .ok (.ireturn, 1) := by decide +kernel
theorem dX3_plant_20 : decode cX3_plant 20 = .ok (.aload_n 0, 1) := by decide +kernel
theorem dX3_plant_21 : decode cX3_plant 21 = .ok (.getfield 12, 3) := by decide +kernel
theorem dX3_plant_24 : decode cX3_plant 24 = .ok (.getfield 58, 3) := by decide +kernel
theorem dX3_plant_27 : decode cX3_plant 27 = .ok (.iload_n 1, 1) := by decide +kernel
theorem dX3_plant_28 : decode cX3_plant 28 = .ok (.iaload, 1) := by decide +kernel
theorem dX3_plant_29 : decode cX3_plant 29 = .ok (.istore_n 3, 1) := by decide +kernel
theorem dX3_plant_30 : decode cX3_plant 30 = .ok (.aload_n 0, 1) := by decide +kernel
theorem dX3_plant_31 : decode cX3_plant 31 = .ok (.getfield 12, 3) := by decide +kernel
theorem dX3_plant_34 : decode cX3_plant 34 = .ok (.iload_n 1, 1) := by decide +kernel
theorem dX3_plant_35 : decode cX3_plant 35 = .ok (.iload_n 2, 1) := by decide +kernel
theorem dX3_plant_36 : decode cX3_plant 36 = .ok (.iconst 0, 1) := by decide +kernel
theorem dX3_plant_37 : decode cX3_plant 37 = .ok (.invokevirtual 91, 3) := by decide +kernel
theorem dX3_plant_40 : decode cX3_plant 40 = .ok (.iload_n 3, 1) := by decide +kernel
theorem dX3_plant_41 : decode cX3_plant 41 = .ok (.ireturn, 1) := by decide +kernel
set_option maxRecDepth 20000 in
theorem ggX3_turn_X3_isTree : GoodIn wsX3_turn wsX3_isTree := goodIn_r _ [6] (by decide +kernel) (by decide +kernel)
set_option maxRecDepth 20000 in
theorem gX3_turn_X3_isTree : GoodIn wsX3_turn (va_wsS RX3 50 yX3_isTree wsX3_isTree) := goodIn_app (goodIn_of _ (by decide +kernel)) ggX3_turn_X3_isTree
set_option maxRecDepth 20000 in
theorem ggX3_turn_X3_isKind : GoodIn wsX3_turn wsX3_isKind := goodIn_r _ [9] (by decide +kernel) (by decide +kernel)
set_option maxRecDepth 20000 in
theorem gX3_turn_X3_isKind : GoodIn wsX3_turn (va_wsS RX3 88 yX3_isKind wsX3_isKind) := goodIn_app (goodIn_of _ (by decide +kernel)) ggX3_turn_X3_isKind
set_option maxRecDepth 20000 in
theorem ggX3_turn_X3_finding : GoodIn wsX3_turn wsX3_finding := goodIn_r _ [13, 14, 15, 16, 17, 18, 19, 20, 21, 22, 23, 24] (by decide +kernel) (by decide +kernel)
set_option maxRecDepth 20000 in
theorem gX3_turn_X3_finding : GoodIn wsX3_turn (wsV RX3 54 RX3 yX3_finding wsX3_finding) := goodIn_app (goodIn_of _ (by decide +kernel)) ggX3_turn_X3_finding
theorem dX3_turn_0 : decode cX3_turn 0 = .ok (.iload_n 1, 1) := by decide +kernel
theorem dX3_turn_1 : decode cX3_turn 1 = .ok (.invokestatic 50, 3) := by decide +kernel
theorem dX3_turn_4 : decode cX3_turn 4 = .ok (.ifCond .eq 10, 3) := by decide +kernel
theorem dX3_turn_7 : decode cX3_turn 7 = .ok (.iload_n 2, 1) := by decide +kernel
theorem dX3_turn_8 : decode cX3_turn 8 = .ok (.invokestatic 88, 3) := by decide +kernel
theorem dX3_turn_11 : decode cX3_turn 11 = .ok (.ifCond .ne 9, 3) := by decide +kernel
theorem dX3_turn_14 : decode cX3_turn 14 = .ok (.aload_n 0, 1) := by decide +kernel
theorem dX3_turn_15 : decode cX3_turn 15 = .ok (.iconst 0, 1) := by decide +kernel
theorem dX3_turn_16 : decode cX3_turn 16 = .ok (.invokevirtual 54, 3) := by decide +kernel
theorem dX3_turn_19 : decode cX3_turn 19 = .ok (.ireturn, 1) := by decide +kernel
theorem dX3_turn_20 : decode cX3_turn 20 = .ok (.aload_n 0, 1) := by decide +kernel
theorem dX3_turn_21 : decode cX3_turn 21 = .ok (.getfield 12, 3) := by decide +kernel
theorem dX3_turn_24 : decode cX3_turn 24 = .ok (.getfield 58, 3) := by decide +kernel
theorem dX3_turn_27 : decode cX3_turn 27 = .ok (.iload_n 1, 1) := by decide +kernel
theorem dX3_turn_28 : decode cX3_turn 28 = .ok (.iaload, 1) := by decide +kernel
theorem dX3_turn_29 : decode cX3_turn 29 = .ok (.istore_n 3, 1) := by decide +kernel
theorem dX3_turn_30 : decode cX3_turn 30 = .ok (.aload_n 0, 1) := by decide +kernel
theorem dX3_turn_31 : decode cX3_turn 31 = .ok (.getfield 12, 3) := by decide +kernel
theorem dX3_turn_34 : decode cX3_turn 34 = .ok (.getfield 58, 3) := by decide +kernel
theorem dX3_turn_37 : decode cX3_turn 37 = .ok (.iload_n 1, 1) := by decide +kernel
theorem dX3_turn_38 : decode cX3_turn 38 = .ok (.iload_n 2, 1) := by decide +kernel
theorem dX3_turn_39 : decode cX3_turn 39 = .ok (.iastore, 1) := by decide +kernel
theorem dX3_turn_40 : decode cX3_turn 40 = .ok (.iload_n 3, 1) := by decide +kernel
theorem dX3_turn_41 : decode cX3_turn 41 = .ok (.ireturn, 1) := by decide +kernel
set_option maxRecDepth 20000 in
theorem ggX3_age_X3_isTree : GoodIn wsX3_age wsX3_isTree := goodIn_r _ [6] (by decide +kernel) (by decide +kernel)
set_option maxRecDepth 20000 in
theorem gX3_age_X3_isTree : GoodIn wsX3_age (va_wsS RX3 50 yX3_isTree wsX3_isTree) := goodIn_app (goodIn_of _ (by decide +kernel)) ggX3_age_X3_isTree
set_option maxRecDepth 20000 in
theorem ggX3_age_X3_isAge : GoodIn wsX3_age wsX3_isAge := goodIn_r _ [9] (by decide +kernel) (by decide +kernel)
set_option maxRecDepth 20000 in
theorem gX3_age_X3_isAge : GoodIn wsX3_age (va_wsS RX3 95 yX3_isAge wsX3_isAge) := goodIn_app (goodIn_of _ (by decide +kernel)) ggX3_age_X3_isAge
set_option maxRecDepth 20000 in
theorem ggX3_age_X3_finding : GoodIn wsX3_age wsX3_finding := goodIn_r _ [13, 14, 15, 16, 17, 18, 19, 20, 21, 22, 23, 24] (by decide +kernel) (by decide +kernel)
set_option maxRecDepth 20000 in
theorem gX3_age_X3_finding : GoodIn wsX3_age (wsV RX3 54 RX3 yX3_finding wsX3_finding) := goodIn_app (goodIn_of _ (by decide +kernel)) ggX3_age_X3_finding
theorem dX3_age_0 : decode cX3_age 0 = .ok (.iload_n 1, 1) := by decide +kernel
theorem dX3_age_1 : decode cX3_age 1 = .ok (.invokestatic 50, 3) := by decide +kernel
theorem dX3_age_4 : decode cX3_age 4 = .ok (.ifCond .eq 10, 3) := by decide +kernel
theorem dX3_age_7 : decode cX3_age 7 = .ok (.iload_n 2, 1) := by decide +kernel
theorem dX3_age_8 : decode cX3_age 8 = .ok (.invokestatic 95, 3) := by decide +kernel
theorem dX3_age_11 : decode cX3_age 11 = .ok (.ifCond .ne 9, 3) := by decide +kernel
theorem dX3_age_14 : decode cX3_age 14 = .ok (.aload_n 0, 1) := by decide +kernel
theorem dX3_age_15 : decode cX3_age 15 = .ok (.iconst 0, 1) := by decide +kernel
theorem dX3_age_16 : decode cX3_age 16 = .ok (.invokevirtual 54, 3) := by decide +kernel
theorem dX3_age_19 : decode cX3_age 19 = .ok (.ireturn, 1) := by decide +kernel
theorem dX3_age_20 : decode cX3_age 20 = .ok (.aload_n 0, 1) := by decide +kernel
theorem dX3_age_21 : decode cX3_age 21 = .ok (.getfield 12, 3) := by decide +kernel
theorem dX3_age_24 : decode cX3_age 24 = .ok (.getfield 61, 3) := by decide +kernel
theorem dX3_age_27 : decode cX3_age 27 = .ok (.iload_n 1, 1) := by decide +kernel
theorem dX3_age_28 : decode cX3_age 28 = .ok (.iaload, 1) := by decide +kernel
theorem dX3_age_29 : decode cX3_age 29 = .ok (.istore_n 3, 1) := by decide +kernel
theorem dX3_age_30 : decode cX3_age 30 = .ok (.aload_n 0, 1) := by decide +kernel
theorem dX3_age_31 : decode cX3_age 31 = .ok (.getfield 12, 3) := by decide +kernel
theorem dX3_age_34 : decode cX3_age 34 = .ok (.getfield 61, 3) := by decide +kernel
theorem dX3_age_37 : decode cX3_age 37 = .ok (.iload_n 1, 1) := by decide +kernel
theorem dX3_age_38 : decode cX3_age 38 = .ok (.iload_n 2, 1) := by decide +kernel
theorem dX3_age_39 : decode cX3_age 39 = .ok (.iastore, 1) := by decide +kernel
theorem dX3_age_40 : decode cX3_age 40 = .ok (.iload_n 3, 1) := by decide +kernel
theorem dX3_age_41 : decode cX3_age 41 = .ok (.ireturn, 1) := by decide +kernel
set_option maxRecDepth 20000 in
theorem ggX3_as_X3_isTree : GoodIn wsX3_as wsX3_isTree := goodIn_r _ [7] (by decide +kernel) (by decide +kernel)
set_option maxRecDepth 20000 in
theorem gX3_as_X3_isTree : GoodIn wsX3_as (va_wsS RX3 50 yX3_isTree wsX3_isTree) := goodIn_app (goodIn_of _ (by decide +kernel)) ggX3_as_X3_isTree
set_option maxRecDepth 20000 in
theorem ggX3_as_X3_isKind : GoodIn wsX3_as wsX3_isKind := goodIn_r _ [10] (by decide +kernel) (by decide +kernel)
set_option maxRecDepth 20000 in
theorem gX3_as_X3_isKind : GoodIn wsX3_as (va_wsS RX3 88 yX3_isKind wsX3_isKind) := goodIn_app (goodIn_of _ (by decide +kernel)) ggX3_as_X3_isKind
set_option maxRecDepth 20000 in
theorem ggX3_as_X3_finding : GoodIn wsX3_as wsX3_finding := goodIn_r _ [14, 15, 16, 20, 21, 22, 23, 24, 25, 26, 27, 28] (by decide +kernel) (by decide +kernel)
set_option maxRecDepth 20000 in
theorem gX3_as_X3_finding : GoodIn wsX3_as (wsV RX3 54 RX3 yX3_finding wsX3_finding) := goodIn_app (goodIn_of _ (by decide +kernel)) ggX3_as_X3_finding
set_option maxRecDepth 20000 in
theorem ggX3_as_X3_isUnder : GoodIn wsX3_as wsX3_isUnder := goodIn_r _ [19] (by decide +kernel) (by decide +kernel)
set_option maxRecDepth 20000 in
theorem gX3_as_X3_isUnder : GoodIn wsX3_as (va_wsS RX3 98 yX3_isUnder wsX3_isUnder) := goodIn_app (goodIn_of _ (by decide +kernel)) ggX3_as_X3_isUnder
theorem dX3_as_0 : decode cX3_as 0 = .ok (.iload_n 1, 1) := by decide +kernel
theorem dX3_as_1 : decode cX3_as 1 = .ok (.invokestatic 50, 3) := by decide +kernel
theorem dX3_as_4 : decode cX3_as 4 = .ok (.ifCond .eq 10, 3) := by decide +kernel
theorem dX3_as_7 : decode cX3_as 7 = .ok (.iload_n 2, 1) := by decide +kernel
theorem dX3_as_8 : decode cX3_as 8 = .ok (.invokestatic 88, 3) := by decide +kernel
theorem dX3_as_11 : decode cX3_as 11 = .ok (.ifCond .ne 9, 3) := by decide +kernel
theorem dX3_as_14 : decode cX3_as 14 = .ok (.aload_n 0, 1) := by decide +kernel
theorem dX3_as_15 : decode cX3_as 15 = .ok (.iconst 0, 1) := by decide +kernel
theorem dX3_as_16 : decode cX3_as 16 = .ok (.invokevirtual 54, 3) := by decide +kernel
theorem dX3_as_19 : decode cX3_as 19 = .ok (.ireturn, 1) := by decide +kernel
theorem dX3_as_20 : decode cX3_as 20 = .ok (.aload_n 0, 1) := by decide +kernel
theorem dX3_as_21 : decode cX3_as 21 = .ok (.getfield 12, 3) := by decide +kernel
theorem dX3_as_24 : decode cX3_as 24 = .ok (.getfield 58, 3) := by decide +kernel
theorem dX3_as_27 : decode cX3_as 27 = .ok (.iload_n 1, 1) := by decide +kernel
theorem dX3_as_28 : decode cX3_as 28 = .ok (.iaload, 1) := by decide +kernel
theorem dX3_as_29 : decode cX3_as 29 = .ok (.iload_n 2, 1) := by decide +kernel
theorem dX3_as_30 : decode cX3_as 30 = .ok (.invokestatic 98, 3) := by decide +kernel
theorem dX3_as_33 : decode cX3_as 33 = .ok (.ifCond .ne 9, 3) := by decide +kernel
theorem dX3_as_36 : decode cX3_as 36 = .ok (.aload_n 0, 1) := by decide +kernel
theorem dX3_as_37 : decode cX3_as 37 = .ok (.iconst 2, 1) := by decide +kernel
theorem dX3_as_38 : decode cX3_as 38 = .ok (.invokevirtual 54, 3) := by decide +kernel
theorem dX3_as_41 : decode cX3_as 41 = .ok (.ireturn, 1) := by decide +kernel
theorem dX3_as_42 : decode cX3_as 42 = .ok (.aload_n 0, 1) := by decide +kernel
theorem dX3_as_43 : decode cX3_as 43 = .ok (.getfield 12, 3) := by decide +kernel
theorem dX3_as_46 : decode cX3_as 46 = .ok (.getfield 61, 3) := by decide +kernel
theorem dX3_as_49 : decode cX3_as 49 = .ok (.iload_n 1, 1) := by decide +kernel
theorem dX3_as_50 : decode cX3_as 50 = .ok (.iaload, 1) := by decide +kernel
theorem dX3_as_51 : decode cX3_as 51 = .ok (.ireturn, 1) := by decide +kernel
set_option maxRecDepth 20000 in
theorem ggX3_meet_X3_isPlace : GoodIn wsX3_meet wsX3_isPlace := goodIn_r _ [5] (by decide +kernel) (by decide +kernel)
set_option maxRecDepth 20000 in
theorem gX3_meet_X3_isPlace : GoodIn wsX3_meet (va_wsS RX3 101 yX3_isPlace wsX3_isPlace) := goodIn_app (goodIn_of _ (by decide +kernel)) ggX3_meet_X3_isPlace
set_option maxRecDepth 20000 in
theorem ggX3_meet_X3_finding : GoodIn wsX3_meet wsX3_finding := goodIn_r _ [9, 10, 11, 22, 23, 24, 25, 26, 27, 28, 29, 30] (by decide +kernel) (by decide +kernel)
set_option maxRecDepth 20000 in
theorem gX3_meet_X3_finding : GoodIn wsX3_meet (wsV RX3 54 RX3 yX3_finding wsX3_finding) := goodIn_app (goodIn_of _ (by decide +kernel)) ggX3_meet_X3_finding
set_option maxRecDepth 20000 in
theorem ggX3_meet_X0_isIntroduced : GoodIn wsX3_meet wsX0_isIntroduced := goodIn_r _ [16, 17, 31, 32, 33, 34, 35, 36] (by decide +kernel) (by decide +kernel)
set_option maxRecDepth 20000 in
theorem gX3_meet_X0_isIntroduced : GoodIn wsX3_meet (wsV RX3 104 RX0 yX0_isIntroduced wsX0_isIntroduced) := goodIn_app (goodIn_of _ (by decide +kernel)) ggX3_meet_X0_isIntroduced
set_option maxRecDepth 20000 in
theorem ggX3_meet_X0_setIntroduced : GoodIn wsX3_meet wsX0_setIntroduced := goodIn_r _ [21, 17, 31, 32, 33, 34, 35, 36] (by decide +kernel) (by decide +kernel)
set_option maxRecDepth 20000 in
theorem gX3_meet_X0_setIntroduced : GoodIn wsX3_meet (wsV RX3 107 RX0 yX0_setIntroduced wsX0_setIntroduced) := goodIn_app (goodIn_of _ (by decide +kernel)) ggX3_meet_X0_setIntroduced
theorem dX3_meet_0 : decode cX3_meet 0 = .ok (.iload_n 1, 1) := by decide +kernel
theorem dX3_meet_1 : decode cX3_meet 1 = .ok (.invokestatic 101, 3) := by decide +kernel
theorem dX3_meet_4 : decode cX3_meet 4 = .ok (.ifCond .eq 12, 3) := by decide +kernel
theorem dX3_meet_7 : decode cX3_meet 7 = .ok (.iload_n 2, 1) := by decide +kernel
theorem dX3_meet_8 : decode cX3_meet 8 = .ok (.ifCond .lt 8, 3) := by decide +kernel
theorem dX3_meet_11 : decode cX3_meet 11 = .ok (.iload_n 2, 1) := by decide +kernel
theorem dX3_meet_12 : decode cX3_meet 12 = .ok (.iconst 1, 1) := by decide +kernel
theorem dX3_meet_13 : decode cX3_meet 13 = .ok (.if_icmp .le 9, 3) := by decide +kernel
theorem dX3_meet_16 : decode cX3_meet 16 = .ok (.aload_n 0, 1) := by decide +kernel
theorem dX3_meet_17 : decode cX3_meet 17 = .ok (.iconst 0, 1) := by decide +kernel
theorem dX3_meet_18 : decode cX3_meet 18 = .ok (.invokevirtual 54, 3) := by decide +kernel
theorem dX3_meet_21 : decode cX3_meet 21 = .ok (.ireturn, 1) := by decide +kernel
theorem dX3_meet_22 : decode cX3_meet 22 = .ok (.aload_n 0, 1) := by decide +kernel
theorem dX3_meet_23 : decode cX3_meet 23 = .ok (.getfield 12, 3) := by decide +kernel
theorem dX3_meet_26 : decode cX3_meet 26 = .ok (.iload_n 1, 1) := by decide +kernel
theorem dX3_meet_27 : decode cX3_meet 27 = .ok (.invokevirtual 104, 3) := by decide +kernel
theorem dX3_meet_30 : decode cX3_meet 30 = .ok (.ifCond .eq 7, 3) := by decide +kernel
theorem dX3_meet_33 : decode cX3_meet 33 = .ok (.iconst 1, 1) := by decide +kernel
theorem dX3_meet_34 : decode cX3_meet 34 = .ok (.goto 4, 3) := by decide +kernel
theorem dX3_meet_37 : decode cX3_meet 37 = .ok (.iconst 0, 1) := by decide +kernel
theorem dX3_meet_38 : decode cX3_meet 38 = .ok (.istore_n 3, 1) := by decide +kernel
theorem dX3_meet_39 : decode cX3_meet 39 = .ok (.aload_n 0, 1) := by decide +kernel
theorem dX3_meet_40 : decode cX3_meet 40 = .ok (.getfield 12, 3) := by decide +kernel
theorem dX3_meet_43 : decode cX3_meet 43 = .ok (.iload_n 1, 1) := by decide +kernel
theorem dX3_meet_44 : decode cX3_meet 44 = .ok (.iload_n 2, 1) := by decide +kernel
theorem dX3_meet_45 : decode cX3_meet 45 = .ok (.iconst 1, 1) := by decide +kernel
theorem dX3_meet_46 : decode cX3_meet 46 = .ok (.if_icmp .ne 7, 3) := by decide +kernel
theorem dX3_meet_49 : decode cX3_meet 49 = .ok (.iconst 1, 1) := by decide +kernel
theorem dX3_meet_50 : decode cX3_meet 50 = .ok (.goto 4, 3) := by decide +kernel
theorem dX3_meet_53 : decode cX3_meet 53 = .ok (.iconst 0, 1) := by decide +kernel
theorem dX3_meet_54 : decode cX3_meet 54 = .ok (.invokevirtual 107, 3) := by decide +kernel
theorem dX3_meet_57 : decode cX3_meet 57 = .ok (.iload_n 3, 1) := by decide +kernel
theorem dX3_meet_58 : decode cX3_meet 58 = .ok (.ireturn, 1) := by decide +kernel
set_option maxRecDepth 20000 in
theorem ggX3_tell_X3_isTree : GoodIn wsX3_tell wsX3_isTree := goodIn_r _ [5] (by decide +kernel) (by decide +kernel)
set_option maxRecDepth 20000 in
theorem gX3_tell_X3_isTree : GoodIn wsX3_tell (va_wsS RX3 50 yX3_isTree wsX3_isTree) := goodIn_app (goodIn_of _ (by decide +kernel)) ggX3_tell_X3_isTree
set_option maxRecDepth 20000 in
theorem ggX3_tell_X3_isMessage : GoodIn wsX3_tell wsX3_isMessage := goodIn_r _ [8] (by decide +kernel) (by decide +kernel)
set_option maxRecDepth 20000 in
theorem gX3_tell_X3_isMessage : GoodIn wsX3_tell (va_wsS RX3 77 yX3_isMessage wsX3_isMessage) := goodIn_app (goodIn_of _ (by decide +kernel)) ggX3_tell_X3_isMessage
set_option maxRecDepth 20000 in
theorem ggX3_tell_X3_finding : GoodIn wsX3_tell wsX3_finding := goodIn_r _ [12, 13, 14, 32, 33, 34, 35, 36, 37, 38, 39, 40] (by decide +kernel) (by decide +kernel)
set_option maxRecDepth 20000 in
theorem gX3_tell_X3_finding : GoodIn wsX3_tell (wsV RX3 54 RX3 yX3_finding wsX3_finding) := goodIn_app (goodIn_of _ (by decide +kernel)) ggX3_tell_X3_finding
set_option maxRecDepth 20000 in
theorem ggX3_tell_X0_knows : GoodIn wsX3_tell wsX0_knows := goodIn_r _ [19, 20, 41, 42, 43, 44, 45, 46] (by decide +kernel) (by decide +kernel)
set_option maxRecDepth 20000 in
theorem gX3_tell_X0_knows : GoodIn wsX3_tell (wsV RX3 80 RX0 yX0_knows wsX0_knows) := goodIn_app (goodIn_of _ (by decide +kernel)) ggX3_tell_X0_knows
set_option maxRecDepth 20000 in
theorem ggX3_tell_X0_learn : GoodIn wsX3_tell wsX0_learn := goodIn_r _ [24, 20, 25, 26, 41, 42, 43, 44, 45, 46] (by decide +kernel) (by decide +kernel)
set_option maxRecDepth 20000 in
theorem gX3_tell_X0_learn : GoodIn wsX3_tell (wsV RX3 111 RX0 yX0_learn wsX0_learn) := goodIn_app (goodIn_of _ (by decide +kernel)) ggX3_tell_X0_learn
set_option maxRecDepth 20000 in
theorem ggX3_tell_X0_knowers : GoodIn wsX3_tell wsX0_knowers := goodIn_r _ [30, 31, 16, 17, 18, 19, 20, 41, 42, 43, 44, 45, 46] (by decide +kernel) (by decide +kernel)
set_option maxRecDepth 20000 in
theorem gX3_tell_X0_knowers : GoodIn wsX3_tell (wsV RX3 115 RX0 yX0_knowers wsX0_knowers) := goodIn_app (goodIn_of _ (by decide +kernel)) ggX3_tell_X0_knowers
theorem dX3_tell_0 : decode cX3_tell 0 = .ok (.iload_n 1, 1) := by decide +kernel
theorem dX3_tell_1 : decode cX3_tell 1 = .ok (.invokestatic 50, 3) := by decide +kernel
theorem dX3_tell_4 : decode cX3_tell 4 = .ok (.ifCond .eq 10, 3) := by decide +kernel
theorem dX3_tell_7 : decode cX3_tell 7 = .ok (.iload_n 2, 1) := by decide +kernel
theorem dX3_tell_8 : decode cX3_tell 8 = .ok (.invokestatic 77, 3) := by decide +kernel
theorem dX3_tell_11 : decode cX3_tell 11 = .ok (.ifCond .ne 9, 3) := by decide +kernel
theorem dX3_tell_14 : decode cX3_tell 14 = .ok (.aload_n 0, 1) := by decide +kernel
theorem dX3_tell_15 : decode cX3_tell 15 = .ok (.iconst 0, 1) := by decide +kernel
theorem dX3_tell_16 : decode cX3_tell 16 = .ok (.invokevirtual 54, 3) := by decide +kernel
theorem dX3_tell_19 : decode cX3_tell 19 = .ok (.ireturn, 1) := by decide +kernel
theorem dX3_tell_20 : decode cX3_tell 20 = .ok (.aload_n 0, 1) := by decide +kernel
theorem dX3_tell_21 : decode cX3_tell 21 = .ok (.getfield 12, 3) := by decide +kernel
theorem dX3_tell_24 : decode cX3_tell 24 = .ok (.iload_n 1, 1) := by decide +kernel
theorem dX3_tell_25 : decode cX3_tell 25 = .ok (.iload_n 2, 1) := by decide +kernel
theorem dX3_tell_26 : decode cX3_tell 26 = .ok (.invokevirtual 80, 3) := by decide +kernel
theorem dX3_tell_29 : decode cX3_tell 29 = .ok (.ifCond .eq 9, 3) := by decide +kernel
theorem dX3_tell_32 : decode cX3_tell 32 = .ok (.aload_n 0, 1) := by decide +kernel
theorem dX3_tell_33 : decode cX3_tell 33 = .ok (.iconst 4, 1) := by decide +kernel
theorem dX3_tell_34 : decode cX3_tell 34 = .ok (.invokevirtual 54, 3) := by decide +kernel
theorem dX3_tell_37 : decode cX3_tell 37 = .ok (.ireturn, 1) := by decide +kernel
theorem dX3_tell_38 : decode cX3_tell 38 = .ok (.aload_n 0, 1) := by decide +kernel
theorem dX3_tell_39 : decode cX3_tell 39 = .ok (.getfield 12, 3) := by decide +kernel
theorem dX3_tell_42 : decode cX3_tell 42 = .ok (.iload_n 1, 1) := by decide +kernel
theorem dX3_tell_43 : decode cX3_tell 43 = .ok (.iload_n 2, 1) := by decide +kernel
theorem dX3_tell_44 : decode cX3_tell 44 = .ok (.invokevirtual 111, 3) := by decide +kernel
theorem dX3_tell_47 : decode cX3_tell 47 = .ok (.aload_n 0, 1) := by decide +kernel
theorem dX3_tell_48 : decode cX3_tell 48 = .ok (.getfield 12, 3) := by decide +kernel
theorem dX3_tell_51 : decode cX3_tell 51 = .ok (.iload_n 2, 1) := by decide +kernel
theorem dX3_tell_52 : decode cX3_tell 52 = .ok (.invokevirtual 115, 3) := by decide +kernel
theorem dX3_tell_55 : decode cX3_tell 55 = .ok (.ireturn, 1) := by decide +kernel
set_option maxRecDepth 20000 in
theorem ggX3_forget_X3_isMessage : GoodIn wsX3_forget wsX3_isMessage := goodIn_r _ [5] (by decide +kernel) (by decide +kernel)
set_option maxRecDepth 20000 in
theorem gX3_forget_X3_isMessage : GoodIn wsX3_forget (va_wsS RX3 77 yX3_isMessage wsX3_isMessage) := goodIn_app (goodIn_of _ (by decide +kernel)) ggX3_forget_X3_isMessage
set_option maxRecDepth 20000 in
theorem ggX3_forget_X3_finding : GoodIn wsX3_forget wsX3_finding := goodIn_r _ [9, 10, 11, 26, 27, 28, 29, 30, 31, 32, 33, 34] (by decide +kernel) (by decide +kernel)
set_option maxRecDepth 20000 in
theorem gX3_forget_X3_finding : GoodIn wsX3_forget (wsV RX3 54 RX3 yX3_finding wsX3_finding) := goodIn_app (goodIn_of _ (by decide +kernel)) ggX3_forget_X3_finding
set_option maxRecDepth 20000 in
theorem ggX3_forget_X0_knowers : GoodIn wsX3_forget wsX0_knowers := goodIn_r _ [16, 17, 18, 19, 15, 20, 21, 35, 36, 37, 38, 39, 40] (by decide +kernel) (by decide +kernel)
set_option maxRecDepth 20000 in
theorem gX3_forget_X0_knowers : GoodIn wsX3_forget (wsV RX3 115 RX0 yX0_knowers wsX0_knowers) := goodIn_app (goodIn_of _ (by decide +kernel)) ggX3_forget_X0_knowers
set_option maxRecDepth 20000 in
theorem ggX3_forget_X0_lose : GoodIn wsX3_forget wsX0_lose := goodIn_r _ [25, 21, 35, 36, 37, 38, 39, 40] (by decide +kernel) (by decide +kernel)
set_option maxRecDepth 20000 in
theorem gX3_forget_X0_lose : GoodIn wsX3_forget (wsV RX3 118 RX0 yX0_lose wsX0_lose) := goodIn_app (goodIn_of _ (by decide +kernel)) ggX3_forget_X0_lose
theorem dX3_forget_0 : decode cX3_forget 0 = .ok (.iload_n 1, 1) := by decide +kernel
theorem dX3_forget_1 : decode cX3_forget 1 = .ok (.invokestatic 77, 3) := by decide +kernel
theorem dX3_forget_4 : decode cX3_forget 4 = .ok (.ifCond .ne 9, 3) := by decide +kernel
theorem dX3_forget_7 : decode cX3_forget 7 = .ok (.aload_n 0, 1) := by decide +kernel
theorem dX3_forget_8 : decode cX3_forget 8 = .ok (.iconst 0, 1) := by decide +kernel
theorem dX3_forget_9 : decode cX3_forget 9 = .ok (.invokevirtual 54, 3) := by decide +kernel
theorem dX3_forget_12 : decode cX3_forget 12 = .ok (.ireturn, 1) := by decide +kernel
theorem dX3_forget_13 : decode cX3_forget 13 = .ok (.aload_n 0, 1) := by decide +kernel
theorem dX3_forget_14 : decode cX3_forget 14 = .ok (.getfield 12, 3) := by decide +kernel
theorem dX3_forget_17 : decode cX3_forget 17 = .ok (.iload_n 1, 1) := by decide +kernel
theorem dX3_forget_18 : decode cX3_forget 18 = .ok (.invokevirtual 115, 3) := by decide +kernel
theorem dX3_forget_21 : decode cX3_forget 21 = .ok (.istore_n 2, 1) := by decide +kernel
theorem dX3_forget_22 : decode cX3_forget 22 = .ok (.iconst 0, 1) := by decide +kernel
theorem dX3_forget_23 : decode cX3_forget 23 = .ok (.istore_n 3, 1) := by decide +kernel
theorem dX3_forget_24 : decode cX3_forget 24 = .ok (.iload_n 3, 1) := by decide +kernel
theorem dX3_forget_25 : decode cX3_forget 25 = .ok (.bipush 12, 2) := by decide +kernel
theorem dX3_forget_27 : decode cX3_forget 27 = .ok (.if_icmp .ge 18, 3) := by decide +kernel
theorem dX3_forget_30 : decode cX3_forget 30 = .ok (.aload_n 0, 1) := by decide +kernel
theorem dX3_forget_31 : decode cX3_forget 31 = .ok (.getfield 12, 3) := by decide +kernel
theorem dX3_forget_34 : decode cX3_forget 34 = .ok (.iload_n 3, 1) := by decide +kernel
theorem dX3_forget_35 : decode cX3_forget 35 = .ok (.iload_n 1, 1) := by decide +kernel
theorem dX3_forget_36 : decode cX3_forget 36 = .ok (.invokevirtual 118, 3) := by decide +kernel
theorem dX3_forget_39 : decode cX3_forget 39 = .ok (.iinc 3 1, 3) := by decide +kernel
theorem dX3_forget_42 : decode cX3_forget 42 = .ok (.goto (-18), 3) := by decide +kernel
theorem dX3_forget_45 : decode cX3_forget 45 = .ok (.iload_n 2, 1) := by decide +kernel
theorem dX3_forget_46 : decode cX3_forget 46 = .ok (.ireturn, 1) := by decide +kernel
set_option maxRecDepth 20000 in
theorem ggX3_years_X3_finding : GoodIn wsX3_years wsX3_finding := goodIn_r _ [7, 8, 9, 70, 71, 72, 73, 74, 75, 76, 77, 78] (by decide +kernel) (by decide +kernel)
set_option maxRecDepth 20000 in
theorem gX3_years_X3_finding : GoodIn wsX3_years (wsV RX3 54 RX3 yX3_finding wsX3_finding) := goodIn_app (goodIn_of _ (by decide +kernel)) ggX3_years_X3_finding
set_option maxRecDepth 20000 in
theorem ggX3_years_X0_passYears : GoodIn wsX3_years wsX0_passYears := goodIn_r _ [14, 15, 16, 17, 13, 18, 19, 20, 21, 22, 23, 24, 25, 26, 27, 28, 29, 30, 31, 32, 33, 34, 35, 36, 37, 38, 39, 40, 41, 42, 43, 44, 45, 46, 47, 48, 49, 50, 51, 52, 53, 54, 55, 56, 57, 58, 59, 60, 61, 62, 63, 79, 80, 81, 82, 83, 84] (by decide +kernel) (by decide +kernel)
set_option maxRecDepth 20000 in
theorem gX3_years_X0_passYears : GoodIn wsX3_years (wsV RX3 125 RX0 yX0_passYears wsX0_passYears) := goodIn_app (goodIn_of _ (by decide +kernel)) ggX3_years_X0_passYears
set_option maxRecDepth 20000 in
theorem ggX3_years_X0_knownAtTerrace : GoodIn wsX3_years wsX0_knownAtTerrace := goodIn_r _ [67, 29, 68, 6, 69, 79, 80, 81, 82, 83, 84] (by decide +kernel) (by decide +kernel)
set_option maxRecDepth 20000 in
theorem gX3_years_X0_knownAtTerrace : GoodIn wsX3_years (wsV RX3 129 RX0 yX0_knownAtTerrace wsX0_knownAtTerrace) := goodIn_app (goodIn_of _ (by decide +kernel)) ggX3_years_X0_knownAtTerrace
theorem dX3_years_0 : decode cX3_years 0 = .ok (.iload_n 1, 1) := by decide +kernel
theorem dX3_years_1 : decode cX3_years 1 = .ok (.iconst 1, 1) := by decide +kernel
theorem dX3_years_2 : decode cX3_years 2 = .ok (.if_icmp .lt 9, 3) := by decide +kernel
theorem dX3_years_5 : decode cX3_years 5 = .ok (.iload_n 1, 1) := by decide +kernel
theorem dX3_years_6 : decode cX3_years 6 = .ok (.bipush 100, 2) := by decide +kernel
theorem dX3_years_8 : decode cX3_years 8 = .ok (.if_icmp .le 9, 3) := by decide +kernel
theorem dX3_years_11 : decode cX3_years 11 = .ok (.aload_n 0, 1) := by decide +kernel
theorem dX3_years_12 : decode cX3_years 12 = .ok (.iconst 0, 1) := by decide +kernel
theorem dX3_years_13 : decode cX3_years 13 = .ok (.invokevirtual 54, 3) := by decide +kernel
theorem dX3_years_16 : decode cX3_years 16 = .ok (.ireturn, 1) := by decide +kernel
theorem dX3_years_17 : decode cX3_years 17 = .ok (.aload_n 0, 1) := by decide +kernel
theorem dX3_years_18 : decode cX3_years 18 = .ok (.getfield 12, 3) := by decide +kernel
theorem dX3_years_21 : decode cX3_years 21 = .ok (.getfield 121, 3) := by decide +kernel
theorem dX3_years_24 : decode cX3_years 24 = .ok (.iload_n 1, 1) := by decide +kernel
theorem dX3_years_25 : decode cX3_years 25 = .ok (.iadd, 1) := by decide +kernel
theorem dX3_years_26 : decode cX3_years 26 = .ok (.sipush 9999, 3) := by decide +kernel
theorem dX3_years_29 : decode cX3_years 29 = .ok (.if_icmp .le 9, 3) := by decide +kernel
theorem dX3_years_32 : decode cX3_years 32 = .ok (.aload_n 0, 1) := by decide +kernel
theorem dX3_years_33 : decode cX3_years 33 = .ok (.iconst 4, 1) := by decide +kernel
theorem dX3_years_34 : decode cX3_years 34 = .ok (.invokevirtual 54, 3) := by decide +kernel
theorem dX3_years_37 : decode cX3_years 37 = .ok (.ireturn, 1) := by decide +kernel
theorem dX3_years_38 : decode cX3_years 38 = .ok (.aload_n 0, 1) := by decide +kernel
theorem dX3_years_39 : decode cX3_years 39 = .ok (.getfield 12, 3) := by decide +kernel
theorem dX3_years_42 : decode cX3_years 42 = .ok (.iload_n 1, 1) := by decide +kernel
theorem dX3_years_43 : decode cX3_years 43 = .ok (.invokevirtual 125, 3) := by decide +kernel
theorem dX3_years_46 : decode cX3_years 46 = .ok (.aload_n 0, 1) := by decide +kernel
theorem dX3_years_47 : decode cX3_years 47 = .ok (.getfield 12, 3) := by decide +kernel
theorem dX3_years_50 : decode cX3_years 50 = .ok (.invokevirtual 129, 3) := by decide +kernel
theorem dX3_years_53 : decode cX3_years 53 = .ok (.ireturn, 1) := by decide +kernel
set_option maxRecDepth 20000 in
theorem ggX3_gale_X0_blow : GoodIn wsX3_gale wsX0_blow := goodIn_r _ [6, 7, 8, 9, 5, 10, 11, 12, 13, 14, 15, 16, 17, 18, 19, 20, 21, 22, 23, 24, 25, 26, 27, 28, 29, 30, 31, 32, 33, 34, 35, 36, 37, 38, 48, 49, 50, 51, 52, 53] (by decide +kernel) (by decide +kernel)
set_option maxRecDepth 20000 in
theorem gX3_gale_X0_blow : GoodIn wsX3_gale (wsV RX3 133 RX0 yX0_blow wsX0_blow) := goodIn_app (goodIn_of _ (by decide +kernel)) ggX3_gale_X0_blow
theorem dX3_gale_0 : decode cX3_gale 0 = .ok (.aload_n 0, 1) := by decide +kernel
theorem dX3_gale_1 : decode cX3_gale 1 = .ok (.getfield 12, 3) := by decide +kernel
theorem dX3_gale_4 : decode cX3_gale 4 = .ok (.invokevirtual 133, 3) := by decide +kernel
theorem dX3_gale_7 : decode cX3_gale 7 = .ok (.ireturn, 1) := by decide +kernel
set_option maxRecDepth 20000 in
theorem ggX3_now_X0_knownAtTerrace : GoodIn wsX3_now wsX0_knownAtTerrace := goodIn_r _ [8, 9, 10, 11, 12, 48, 49, 50, 51, 52, 53] (by decide +kernel) (by decide +kernel)
set_option maxRecDepth 20000 in
theorem gX3_now_X0_knownAtTerrace : GoodIn wsX3_now (wsV RX3 129 RX0 yX0_knownAtTerrace wsX0_knownAtTerrace) := goodIn_app (goodIn_of _ (by decide +kernel)) ggX3_now_X0_knownAtTerrace
set_option maxRecDepth 20000 in
theorem ggX3_now_X0_knownByAny : GoodIn wsX3_now wsX0_knownByAny := goodIn_r _ [16, 9, 48, 49, 50, 51, 52, 53] (by decide +kernel) (by decide +kernel)
set_option maxRecDepth 20000 in
theorem gX3_now_X0_knownByAny : GoodIn wsX3_now (wsV RX3 139 RX0 yX0_knownByAny wsX0_knownByAny) := goodIn_app (goodIn_of _ (by decide +kernel)) ggX3_now_X0_knownByAny
set_option maxRecDepth 20000 in
theorem ggX3_now_X0_knownInAll : GoodIn wsX3_now wsX0_knownInAll := goodIn_r _ [20, 9, 21, 22, 23, 24, 25, 26, 27, 48, 49, 50, 51, 52, 53] (by decide +kernel) (by decide +kernel)
set_option maxRecDepth 20000 in
theorem gX3_now_X0_knownInAll : GoodIn wsX3_now (wsV RX3 142 RX0 yX0_knownInAll wsX0_knownInAll) := goodIn_app (goodIn_of _ (by decide +kernel)) ggX3_now_X0_knownInAll
set_option maxRecDepth 20000 in
theorem ggX3_now_X0_agesTogether : GoodIn wsX3_now wsX0_agesTogether := goodIn_r _ [31, 32, 48, 49, 50, 51, 52, 53] (by decide +kernel) (by decide +kernel)
set_option maxRecDepth 20000 in
theorem gX3_now_X0_agesTogether : GoodIn wsX3_now (wsV RX3 145 RX0 yX0_agesTogether wsX0_agesTogether) := goodIn_app (goodIn_of _ (by decide +kernel)) ggX3_now_X0_agesTogether
set_option maxRecDepth 20000 in
theorem ggX3_now_X3_finding : GoodIn wsX3_now wsX3_finding := goodIn_r _ [36, 37, 38, 39, 40, 41, 42, 43, 44, 45, 46, 47] (by decide +kernel) (by decide +kernel)
set_option maxRecDepth 20000 in
theorem gX3_now_X3_finding : GoodIn wsX3_now (wsV RX3 54 RX3 yX3_finding wsX3_finding) := goodIn_app (goodIn_of _ (by decide +kernel)) ggX3_now_X3_finding
theorem dX3_now_0 : decode cX3_now 0 = .ok (.iload_n 1, 1) := by decide +kernel
theorem dX3_now_1 : decode cX3_now 1 = .ok (.tableswitch 87 0 5 #[39, 47, 55, 63, 71, 79], 39) := by decide +kernel
theorem dX3_now_40 : decode cX3_now 40 = .ok (.aload_n 0, 1) := by decide +kernel
theorem dX3_now_41 : decode cX3_now 41 = .ok (.getfield 12, 3) := by decide +kernel
theorem dX3_now_44 : decode cX3_now 44 = .ok (.getfield 121, 3) := by decide +kernel
theorem dX3_now_47 : decode cX3_now 47 = .ok (.ireturn, 1) := by decide +kernel
theorem dX3_now_48 : decode cX3_now 48 = .ok (.aload_n 0, 1) := by decide +kernel
theorem dX3_now_49 : decode cX3_now 49 = .ok (.getfield 12, 3) := by decide +kernel
theorem dX3_now_52 : decode cX3_now 52 = .ok (.getfield 136, 3) := by decide +kernel
theorem dX3_now_55 : decode cX3_now 55 = .ok (.ireturn, 1) := by decide +kernel
theorem dX3_now_56 : decode cX3_now 56 = .ok (.aload_n 0, 1) := by decide +kernel
theorem dX3_now_57 : decode cX3_now 57 = .ok (.getfield 12, 3) := by decide +kernel
theorem dX3_now_60 : decode cX3_now 60 = .ok (.invokevirtual 129, 3) := by decide +kernel
theorem dX3_now_63 : decode cX3_now 63 = .ok (.ireturn, 1) := by decide +kernel
theorem dX3_now_64 : decode cX3_now 64 = .ok (.aload_n 0, 1) := by decide +kernel
theorem dX3_now_65 : decode cX3_now 65 = .ok (.getfield 12, 3) := by decide +kernel
theorem dX3_now_68 : decode cX3_now 68 = .ok (.invokevirtual 139, 3) := by decide +kernel
theorem dX3_now_71 : decode cX3_now 71 = .ok (.ireturn, 1) := by decide +kernel
theorem dX3_now_72 : decode cX3_now 72 = .ok (.aload_n 0, 1) := by decide +kernel
theorem dX3_now_73 : decode cX3_now 73 = .ok (.getfield 12, 3) := by decide +kernel
theorem dX3_now_76 : decode cX3_now 76 = .ok (.invokevirtual 142, 3) := by decide +kernel
theorem dX3_now_79 : decode cX3_now 79 = .ok (.ireturn, 1) := by decide +kernel
theorem dX3_now_80 : decode cX3_now 80 = .ok (.aload_n 0, 1) := by decide +kernel
theorem dX3_now_81 : decode cX3_now 81 = .ok (.getfield 12, 3) := by decide +kernel
theorem dX3_now_84 : decode cX3_now 84 = .ok (.invokevirtual 145, 3) := by decide +kernel
theorem dX3_now_87 : decode cX3_now 87 = .ok (.ireturn, 1) := by decide +kernel
theorem dX3_now_88 : decode cX3_now 88 = .ok (.aload_n 0, 1) := by decide +kernel
theorem dX3_now_89 : decode cX3_now 89 = .ok (.iconst 0, 1) := by decide +kernel
theorem dX3_now_90 : decode cX3_now 90 = .ok (.invokevirtual 54, 3) := by decide +kernel
theorem dX3_now_93 : decode cX3_now 93 = .ok (.ireturn, 1) := by decide +kernel
set_option maxRecDepth 20000 in
theorem ggX3_on_X3_isTree : GoodIn wsX3_on wsX3_isTree := goodIn_r _ [6] (by decide +kernel) (by decide +kernel)
set_option maxRecDepth 20000 in
theorem gX3_on_X3_isTree : GoodIn wsX3_on (va_wsS RX3 50 yX3_isTree wsX3_isTree) := goodIn_app (goodIn_of _ (by decide +kernel)) ggX3_on_X3_isTree
set_option maxRecDepth 20000 in
theorem ggX3_on_X3_finding : GoodIn wsX3_on wsX3_finding := goodIn_r _ [10, 11, 12, 80, 81, 82, 83, 84, 85, 86, 87, 88] (by decide +kernel) (by decide +kernel)
set_option maxRecDepth 20000 in
theorem gX3_on_X3_finding : GoodIn wsX3_on (wsV RX3 54 RX3 yX3_finding wsX3_finding) := goodIn_app (goodIn_of _ (by decide +kernel)) ggX3_on_X3_finding
set_option maxRecDepth 20000 in
theorem ggX3_on_X3_suppose : GoodIn wsX3_on wsX3_suppose := goodIn_r _ [16, 1, 17, 18, 19, 20, 21, 22, 23, 24, 25, 26, 27, 28, 29, 30, 31, 32, 80, 81, 82, 83, 84, 85, 86, 87, 88, 89, 90, 91, 92, 93, 94] (by decide +kernel) (by decide +kernel)
set_option maxRecDepth 20000 in
theorem gX3_on_X3_suppose : GoodIn wsX3_on (wsV RX3 148 RX3 yX3_suppose wsX3_suppose) := goodIn_app (goodIn_of _ (by decide +kernel)) ggX3_on_X3_suppose
set_option maxRecDepth 20000 in
theorem ggX3_on_X0_passYears : GoodIn wsX3_on wsX0_passYears := goodIn_r _ [36, 37, 38, 39, 21, 40, 30, 41, 42, 43, 44, 23, 45, 46, 47, 48, 31, 49, 50, 51, 52, 24, 53, 54, 55, 56, 25, 57, 58, 59, 60, 61, 62, 63, 64, 65, 66, 67, 68, 69, 70, 71, 32, 72, 73, 74, 75, 76, 77, 78, 79, 89, 90, 91, 92, 93, 94] (by decide +kernel) (by decide +kernel)
set_option maxRecDepth 20000 in
theorem gX3_on_X0_passYears : GoodIn wsX3_on (wsV RX3 125 RX0 yX0_passYears wsX0_passYears) := goodIn_app (goodIn_of _ (by decide +kernel)) ggX3_on_X0_passYears
theorem dX3_on_0 : decode cX3_on 0 = .ok (.iload_n 1, 1) := by decide +kernel
theorem dX3_on_1 : decode cX3_on 1 = .ok (.invokestatic 50, 3) := by decide +kernel
theorem dX3_on_4 : decode cX3_on 4 = .ok (.ifCond .eq 14, 3) := by decide +kernel
theorem dX3_on_7 : decode cX3_on 7 = .ok (.iload_n 2, 1) := by decide +kernel
theorem dX3_on_8 : decode cX3_on 8 = .ok (.ifCond .lt 10, 3) := by decide +kernel
theorem dX3_on_11 : decode cX3_on 11 = .ok (.iload_n 2, 1) := by decide +kernel
theorem dX3_on_12 : decode cX3_on 12 = .ok (.sipush 200, 3) := by decide +kernel
theorem dX3_on_15 : decode cX3_on 15 = .ok (.if_icmp .le 9, 3) := by decide +kernel
theorem dX3_on_18 : decode cX3_on 18 = .ok (.aload_n 0, 1) := by decide +kernel
theorem dX3_on_19 : decode cX3_on 19 = .ok (.iconst 0, 1) := by decide +kernel
theorem dX3_on_20 : decode cX3_on 20 = .ok (.invokevirtual 54, 3) := by decide +kernel
theorem dX3_on_23 : decode cX3_on 23 = .ok (.ireturn, 1) := by decide +kernel
theorem dX3_on_24 : decode cX3_on 24 = .ok (.aload_n 0, 1) := by decide +kernel
theorem dX3_on_25 : decode cX3_on 25 = .ok (.invokevirtual 148, 3) := by decide +kernel
theorem dX3_on_28 : decode cX3_on 28 = .ok (.aload_n 0, 1) := by decide +kernel
theorem dX3_on_29 : decode cX3_on 29 = .ok (.getfield 19, 3) := by decide +kernel
theorem dX3_on_32 : decode cX3_on 32 = .ok (.iload_n 2, 1) := by decide +kernel
theorem dX3_on_33 : decode cX3_on 33 = .ok (.invokevirtual 125, 3) := by decide +kernel
theorem dX3_on_36 : decode cX3_on 36 = .ok (.aload_n 0, 1) := by decide +kernel
theorem dX3_on_37 : decode cX3_on 37 = .ok (.getfield 19, 3) := by decide +kernel
theorem dX3_on_40 : decode cX3_on 40 = .ok (.getfield 74, 3) := by decide +kernel
theorem dX3_on_43 : decode cX3_on 43 = .ok (.iload_n 1, 1) := by decide +kernel
theorem dX3_on_44 : decode cX3_on 44 = .ok (.iaload, 1) := by decide +kernel
theorem dX3_on_45 : decode cX3_on 45 = .ok (.ireturn, 1) := by decide +kernel
set_option maxRecDepth 20000 in
theorem ggX3_when_X3_isTree : GoodIn wsX3_when wsX3_isTree := goodIn_r _ [5] (by decide +kernel) (by decide +kernel)
set_option maxRecDepth 20000 in
theorem gX3_when_X3_isTree : GoodIn wsX3_when (va_wsS RX3 50 yX3_isTree wsX3_isTree) := goodIn_app (goodIn_of _ (by decide +kernel)) ggX3_when_X3_isTree
set_option maxRecDepth 20000 in
theorem ggX3_when_X3_isMessage : GoodIn wsX3_when wsX3_isMessage := goodIn_r _ [8] (by decide +kernel) (by decide +kernel)
set_option maxRecDepth 20000 in
theorem gX3_when_X3_isMessage : GoodIn wsX3_when (va_wsS RX3 77 yX3_isMessage wsX3_isMessage) := goodIn_app (goodIn_of _ (by decide +kernel)) ggX3_when_X3_isMessage
set_option maxRecDepth 20000 in
theorem ggX3_when_X3_finding : GoodIn wsX3_when wsX3_finding := goodIn_r _ [12, 13, 14, 91, 92, 93, 94, 95, 96, 97, 98, 99] (by decide +kernel) (by decide +kernel)
set_option maxRecDepth 20000 in
theorem gX3_when_X3_finding : GoodIn wsX3_when (wsV RX3 54 RX3 yX3_finding wsX3_finding) := goodIn_app (goodIn_of _ (by decide +kernel)) ggX3_when_X3_finding
set_option maxRecDepth 20000 in
theorem ggX3_when_X3_findLearntIn : GoodIn wsX3_when wsX3_findLearntIn := goodIn_r _ [18, 1, 19, 20, 21, 22, 23, 24, 25, 26, 4, 27, 28, 29, 30, 31, 32, 33, 34, 35, 36, 37, 38, 39, 40, 41, 42, 43, 44, 45, 46, 47, 48, 49, 50, 51, 52, 53, 54, 55, 56, 57, 58, 59, 60, 61, 62, 63, 64, 65, 66, 67, 68, 69, 70, 71, 72, 73, 74, 75, 76, 77, 78, 79, 80, 81, 82, 83, 84, 85, 86, 87, 88, 89, 90, 91, 92, 93, 94, 95, 96, 97, 98, 99, 100, 101, 102, 103, 104, 105] (by decide +kernel) (by decide +kernel)
set_option maxRecDepth 20000 in
theorem gX3_when_X3_findLearntIn : GoodIn wsX3_when (wsV RX3 151 RX3 yX3_findLearntIn wsX3_findLearntIn) := goodIn_app (goodIn_of _ (by decide +kernel)) ggX3_when_X3_findLearntIn
theorem dX3_when_0 : decode cX3_when 0 = .ok (.iload_n 1, 1) := by decide +kernel
theorem dX3_when_1 : decode cX3_when 1 = .ok (.invokestatic 50, 3) := by decide +kernel
theorem dX3_when_4 : decode cX3_when 4 = .ok (.ifCond .eq 10, 3) := by decide +kernel
theorem dX3_when_7 : decode cX3_when 7 = .ok (.iload_n 2, 1) := by decide +kernel
theorem dX3_when_8 : decode cX3_when 8 = .ok (.invokestatic 77, 3) := by decide +kernel
theorem dX3_when_11 : decode cX3_when 11 = .ok (.ifCond .ne 9, 3) := by decide +kernel
theorem dX3_when_14 : decode cX3_when 14 = .ok (.aload_n 0, 1) := by decide +kernel
theorem dX3_when_15 : decode cX3_when 15 = .ok (.iconst 0, 1) := by decide +kernel
theorem dX3_when_16 : decode cX3_when 16 = .ok (.invokevirtual 54, 3) := by decide +kernel
theorem dX3_when_19 : decode cX3_when 19 = .ok (.ireturn, 1) := by decide +kernel
theorem dX3_when_20 : decode cX3_when 20 = .ok (.aload_n 0, 1) := by decide +kernel
theorem dX3_when_21 : decode cX3_when 21 = .ok (.iload_n 2, 1) := by decide +kernel
theorem dX3_when_22 : decode cX3_when 22 = .ok (.invokevirtual 151, 3) := by decide +kernel
theorem dX3_when_25 : decode cX3_when 25 = .ok (.aload_n 0, 1) := by decide +kernel
theorem dX3_when_26 : decode cX3_when 26 = .ok (.getfield 25, 3) := by decide +kernel
theorem dX3_when_29 : decode cX3_when 29 = .ok (.iload_n 1, 1) := by decide +kernel
theorem dX3_when_30 : decode cX3_when 30 = .ok (.iaload, 1) := by decide +kernel
theorem dX3_when_31 : decode cX3_when 31 = .ok (.sipush 201, 3) := by decide +kernel
theorem dX3_when_34 : decode cX3_when 34 = .ok (.if_icmp .ne 11, 3) := by decide +kernel
theorem dX3_when_37 : decode cX3_when 37 = .ok (.aload_n 0, 1) := by decide +kernel
theorem dX3_when_38 : decode cX3_when 38 = .ok (.iconst 3, 1) := by decide +kernel
theorem dX3_when_39 : decode cX3_when 39 = .ok (.invokevirtual 54, 3) := by decide +kernel
theorem dX3_when_42 : decode cX3_when 42 = .ok (.goto 9, 3) := by decide +kernel
theorem dX3_when_45 : decode cX3_when 45 = .ok (.aload_n 0, 1) := by decide +kernel
theorem dX3_when_46 : decode cX3_when 46 = .ok (.getfield 25, 3) := by decide +kernel
theorem dX3_when_49 : decode cX3_when 49 = .ok (.iload_n 1, 1) := by decide +kernel
theorem dX3_when_50 : decode cX3_when 50 = .ok (.iaload, 1) := by decide +kernel
theorem dX3_when_51 : decode cX3_when 51 = .ok (.ireturn, 1) := by decide +kernel
set_option maxRecDepth 20000 in
theorem ggX3_home_X3_isMessage : GoodIn wsX3_home wsX3_isMessage := goodIn_r _ [4] (by decide +kernel) (by decide +kernel)
set_option maxRecDepth 20000 in
theorem gX3_home_X3_isMessage : GoodIn wsX3_home (va_wsS RX3 77 yX3_isMessage wsX3_isMessage) := goodIn_app (goodIn_of _ (by decide +kernel)) ggX3_home_X3_isMessage
set_option maxRecDepth 20000 in
theorem ggX3_home_X3_finding : GoodIn wsX3_home wsX3_finding := goodIn_r _ [8, 9, 10, 89, 90, 91, 92, 93, 94, 95, 96, 97] (by decide +kernel) (by decide +kernel)
set_option maxRecDepth 20000 in
theorem gX3_home_X3_finding : GoodIn wsX3_home (wsV RX3 54 RX3 yX3_finding wsX3_finding) := goodIn_app (goodIn_of _ (by decide +kernel)) ggX3_home_X3_finding
set_option maxRecDepth 20000 in
theorem ggX3_home_X3_homeAsItIs : GoodIn wsX3_home wsX3_homeAsItIs := goodIn_r _ [14, 15, 16, 17, 18, 3, 19, 20, 21, 22, 23, 24, 25, 26, 27, 28, 29, 30, 31, 32, 33, 34, 35, 36, 37, 38, 39, 40, 41, 42, 43, 44, 45, 46, 47, 48, 49, 50, 51, 52, 53, 54, 55, 56, 57, 58, 59, 60, 61, 62, 63, 64, 65, 66, 67, 68, 69, 70, 71, 72, 73, 74, 75, 76, 77, 78, 79, 80, 81, 82, 83, 84, 85, 86, 87, 88, 89, 90, 91, 92, 93, 94, 95, 96, 97, 98, 99, 100, 101, 102, 103] (by decide +kernel) (by decide +kernel)
set_option maxRecDepth 20000 in
theorem gX3_home_X3_homeAsItIs : GoodIn wsX3_home (wsV RX3 154 RX3 yX3_homeAsItIs wsX3_homeAsItIs) := goodIn_app (goodIn_of _ (by decide +kernel)) ggX3_home_X3_homeAsItIs
theorem dX3_home_0 : decode cX3_home 0 = .ok (.iload_n 1, 1) := by decide +kernel
theorem dX3_home_1 : decode cX3_home 1 = .ok (.invokestatic 77, 3) := by decide +kernel
theorem dX3_home_4 : decode cX3_home 4 = .ok (.ifCond .ne 9, 3) := by decide +kernel
theorem dX3_home_7 : decode cX3_home 7 = .ok (.aload_n 0, 1) := by decide +kernel
theorem dX3_home_8 : decode cX3_home 8 = .ok (.iconst 0, 1) := by decide +kernel
theorem dX3_home_9 : decode cX3_home 9 = .ok (.invokevirtual 54, 3) := by decide +kernel
theorem dX3_home_12 : decode cX3_home 12 = .ok (.ireturn, 1) := by decide +kernel
theorem dX3_home_13 : decode cX3_home 13 = .ok (.aload_n 0, 1) := by decide +kernel
theorem dX3_home_14 : decode cX3_home 14 = .ok (.iload_n 1, 1) := by decide +kernel
theorem dX3_home_15 : decode cX3_home 15 = .ok (.invokevirtual 154, 3) := by decide +kernel
theorem dX3_home_18 : decode cX3_home 18 = .ok (.istore_n 2, 1) := by decide +kernel
theorem dX3_home_19 : decode cX3_home 19 = .ok (.iload_n 2, 1) := by decide +kernel
theorem dX3_home_20 : decode cX3_home 20 = .ok (.sipush 201, 3) := by decide +kernel
theorem dX3_home_23 : decode cX3_home 23 = .ok (.if_icmp .ne 11, 3) := by decide +kernel
theorem dX3_home_26 : decode cX3_home 26 = .ok (.aload_n 0, 1) := by decide +kernel
theorem dX3_home_27 : decode cX3_home 27 = .ok (.iconst 3, 1) := by decide +kernel
theorem dX3_home_28 : decode cX3_home 28 = .ok (.invokevirtual 54, 3) := by decide +kernel
theorem dX3_home_31 : decode cX3_home 31 = .ok (.goto 4, 3) := by decide +kernel
theorem dX3_home_34 : decode cX3_home 34 = .ok (.iload_n 2, 1) := by decide +kernel
theorem dX3_home_35 : decode cX3_home 35 = .ok (.ireturn, 1) := by decide +kernel
set_option maxRecDepth 20000 in
theorem ggX3_last_X3_isMessage : GoodIn wsX3_last wsX3_isMessage := goodIn_r _ [5] (by decide +kernel) (by decide +kernel)
set_option maxRecDepth 20000 in
theorem gX3_last_X3_isMessage : GoodIn wsX3_last (va_wsS RX3 77 yX3_isMessage wsX3_isMessage) := goodIn_app (goodIn_of _ (by decide +kernel)) ggX3_last_X3_isMessage
set_option maxRecDepth 20000 in
theorem ggX3_last_X3_finding : GoodIn wsX3_last wsX3_finding := goodIn_r _ [9, 10, 11, 88, 89, 90, 91, 92, 93, 94, 95, 96] (by decide +kernel) (by decide +kernel)
set_option maxRecDepth 20000 in
theorem gX3_last_X3_finding : GoodIn wsX3_last (wsV RX3 54 RX3 yX3_finding wsX3_finding) := goodIn_app (goodIn_of _ (by decide +kernel)) ggX3_last_X3_finding
set_option maxRecDepth 20000 in
theorem ggX3_last_X3_findLearntIn : GoodIn wsX3_last wsX3_findLearntIn := goodIn_r _ [15, 1, 16, 17, 18, 19, 20, 21, 22, 23, 4, 24, 25, 26, 27, 28, 29, 30, 31, 32, 33, 34, 35, 36, 37, 38, 39, 40, 41, 42, 43, 44, 45, 46, 47, 48, 49, 50, 51, 52, 53, 54, 55, 56, 57, 58, 59, 60, 61, 62, 63, 64, 65, 66, 67, 68, 69, 70, 71, 72, 73, 74, 75, 76, 77, 78, 79, 80, 81, 82, 83, 84, 85, 86, 87, 88, 89, 90, 91, 92, 93, 94, 95, 96, 97, 98, 99, 100, 101, 102] (by decide +kernel) (by decide +kernel)
set_option maxRecDepth 20000 in
theorem gX3_last_X3_findLearntIn : GoodIn wsX3_last (wsV RX3 151 RX3 yX3_findLearntIn wsX3_findLearntIn) := goodIn_app (goodIn_of _ (by decide +kernel)) ggX3_last_X3_findLearntIn
theorem dX3_last_0 : decode cX3_last 0 = .ok (.iload_n 1, 1) := by decide +kernel
theorem dX3_last_1 : decode cX3_last 1 = .ok (.invokestatic 77, 3) := by decide +kernel
theorem dX3_last_4 : decode cX3_last 4 = .ok (.ifCond .ne 9, 3) := by decide +kernel
theorem dX3_last_7 : decode cX3_last 7 = .ok (.aload_n 0, 1) := by decide +kernel
theorem dX3_last_8 : decode cX3_last 8 = .ok (.iconst 0, 1) := by decide +kernel
theorem dX3_last_9 : decode cX3_last 9 = .ok (.invokevirtual 54, 3) := by decide +kernel
theorem dX3_last_12 : decode cX3_last 12 = .ok (.ireturn, 1) := by decide +kernel
theorem dX3_last_13 : decode cX3_last 13 = .ok (.aload_n 0, 1) := by decide +kernel
theorem dX3_last_14 : decode cX3_last 14 = .ok (.iload_n 1, 1) := by decide +kernel
theorem dX3_last_15 : decode cX3_last 15 = .ok (.invokevirtual 151, 3) := by decide +kernel
theorem dX3_last_18 : decode cX3_last 18 = .ok (.iconst 0, 1) := by decide +kernel
theorem dX3_last_19 : decode cX3_last 19 = .ok (.istore_n 2, 1) := by decide +kernel
theorem dX3_last_20 : decode cX3_last 20 = .ok (.iconst 1, 1) := by decide +kernel
theorem dX3_last_21 : decode cX3_last 21 = .ok (.istore_n 3, 1) := by decide +kernel
theorem dX3_last_22 : decode cX3_last 22 = .ok (.iload_n 3, 1) := by decide +kernel
theorem dX3_last_23 : decode cX3_last 23 = .ok (.bipush 12, 2) := by decide +kernel
theorem dX3_last_25 : decode cX3_last 25 = .ok (.if_icmp .ge 26, 3) := by decide +kernel
theorem dX3_last_28 : decode cX3_last 28 = .ok (.aload_n 0, 1) := by decide +kernel
theorem dX3_last_29 : decode cX3_last 29 = .ok (.getfield 25, 3) := by decide +kernel
theorem dX3_last_32 : decode cX3_last 32 = .ok (.iload_n 3, 1) := by decide +kernel
theorem dX3_last_33 : decode cX3_last 33 = .ok (.iaload, 1) := by decide +kernel
theorem dX3_last_34 : decode cX3_last 34 = .ok (.aload_n 0, 1) := by decide +kernel
theorem dX3_last_35 : decode cX3_last 35 = .ok (.getfield 25, 3) := by decide +kernel
theorem dX3_last_38 : decode cX3_last 38 = .ok (.iload_n 2, 1) := by decide +kernel
theorem dX3_last_39 : decode cX3_last 39 = .ok (.iaload, 1) := by decide +kernel
theorem dX3_last_40 : decode cX3_last 40 = .ok (.if_icmp .le 5, 3) := by decide +kernel
theorem dX3_last_43 : decode cX3_last 43 = .ok (.iload_n 3, 1) := by decide +kernel
theorem dX3_last_44 : decode cX3_last 44 = .ok (.istore_n 2, 1) := by decide +kernel
theorem dX3_last_45 : decode cX3_last 45 = .ok (.iinc 3 1, 3) := by decide +kernel
theorem dX3_last_48 : decode cX3_last 48 = .ok (.goto (-26), 3) := by decide +kernel
theorem dX3_last_51 : decode cX3_last 51 = .ok (.iload_n 2, 1) := by decide +kernel
theorem dX3_last_52 : decode cX3_last 52 = .ok (.ireturn, 1) := by decide +kernel
set_option maxRecDepth 20000 in
theorem ggX3_introduce_X3_isMessage : GoodIn wsX3_introduce wsX3_isMessage := goodIn_r _ [6] (by decide +kernel) (by decide +kernel)
set_option maxRecDepth 20000 in
theorem gX3_introduce_X3_isMessage : GoodIn wsX3_introduce (va_wsS RX3 77 yX3_isMessage wsX3_isMessage) := goodIn_app (goodIn_of _ (by decide +kernel)) ggX3_introduce_X3_isMessage
set_option maxRecDepth 20000 in
theorem ggX3_introduce_X3_finding : GoodIn wsX3_introduce wsX3_finding := goodIn_r _ [10, 11, 12, 94, 95, 96, 97, 98, 99, 100, 101, 102] (by decide +kernel) (by decide +kernel)
set_option maxRecDepth 20000 in
theorem gX3_introduce_X3_finding : GoodIn wsX3_introduce (wsV RX3 54 RX3 yX3_finding wsX3_finding) := goodIn_app (goodIn_of _ (by decide +kernel)) ggX3_introduce_X3_finding
set_option maxRecDepth 20000 in
theorem ggX3_introduce_X3_homeAsItIs : GoodIn wsX3_introduce wsX3_homeAsItIs := goodIn_r _ [16, 2, 17, 18, 19, 5, 20, 1, 21, 22, 23, 24, 25, 26, 27, 28, 29, 30, 31, 32, 33, 34, 35, 36, 37, 38, 39, 40, 41, 42, 43, 44, 45, 46, 47, 48, 49, 50, 51, 52, 53, 54, 55, 56, 57, 58, 59, 60, 61, 62, 63, 64, 65, 66, 67, 68, 69, 70, 71, 72, 73, 74, 75, 76, 77, 78, 79, 80, 81, 82, 83, 84, 85, 86, 87, 88, 94, 95, 96, 97, 98, 99, 100, 101, 102, 103, 104, 105, 106, 107, 108] (by decide +kernel) (by decide +kernel)
set_option maxRecDepth 20000 in
theorem gX3_introduce_X3_homeAsItIs : GoodIn wsX3_introduce (wsV RX3 154 RX3 yX3_homeAsItIs wsX3_homeAsItIs) := goodIn_app (goodIn_of _ (by decide +kernel)) ggX3_introduce_X3_homeAsItIs
set_option maxRecDepth 20000 in
theorem ggX3_introduce_X0_isIntroduced : GoodIn wsX3_introduce wsX0_isIntroduced := goodIn_r _ [61, 27, 103, 104, 105, 106, 107, 108] (by decide +kernel) (by decide +kernel)
set_option maxRecDepth 20000 in
theorem gX3_introduce_X0_isIntroduced : GoodIn wsX3_introduce (wsV RX3 104 RX0 yX0_isIntroduced wsX0_isIntroduced) := goodIn_app (goodIn_of _ (by decide +kernel)) ggX3_introduce_X0_isIntroduced
set_option maxRecDepth 20000 in
theorem ggX3_introduce_X3_suppose : GoodIn wsX3_introduce wsX3_suppose := goodIn_r _ [20, 2, 1, 21, 22, 23, 24, 25, 26, 27, 28, 29, 30, 31, 32, 33, 34, 35, 94, 95, 96, 97, 98, 99, 100, 101, 102, 103, 104, 105, 106, 107, 108] (by decide +kernel) (by decide +kernel)
set_option maxRecDepth 20000 in
theorem gX3_introduce_X3_suppose : GoodIn wsX3_introduce (wsV RX3 148 RX3 yX3_suppose wsX3_suppose) := goodIn_app (goodIn_of _ (by decide +kernel)) ggX3_introduce_X3_suppose
set_option maxRecDepth 20000 in
theorem ggX3_introduce_X0_setIntroduced : GoodIn wsX3_introduce wsX0_setIntroduced := goodIn_r _ [93, 27, 103, 104, 105, 106, 107, 108] (by decide +kernel) (by decide +kernel)
set_option maxRecDepth 20000 in
theorem gX3_introduce_X0_setIntroduced : GoodIn wsX3_introduce (wsV RX3 107 RX0 yX0_setIntroduced wsX0_setIntroduced) := goodIn_app (goodIn_of _ (by decide +kernel)) ggX3_introduce_X0_setIntroduced
set_option maxRecDepth 20000 in
theorem ggX3_introduce_X0_goHome : GoodIn wsX3_introduce wsX0_goHome := goodIn_r _ [39, 40, 5, 41, 42, 43, 44, 24, 45, 34, 46, 47, 48, 49, 33, 50, 51, 52, 53, 26, 54, 55, 56, 57, 58, 59, 60, 61, 27, 62, 63, 64, 65, 28, 66, 67, 68, 69, 70, 71, 72, 73, 74, 75, 76, 77, 78, 79, 80, 35, 81, 82, 83, 84, 85, 86, 87, 88, 103, 104, 105, 106, 107, 108] (by decide +kernel) (by decide +kernel)
set_option maxRecDepth 20000 in
theorem gX3_introduce_X0_goHome : GoodIn wsX3_introduce (wsV RX3 157 RX0 yX0_goHome wsX0_goHome) := goodIn_app (goodIn_of _ (by decide +kernel)) ggX3_introduce_X0_goHome
theorem dX3_introduce_0 : decode cX3_introduce 0 = .ok (.iload_n 1, 1) := by decide +kernel
theorem dX3_introduce_1 : decode cX3_introduce 1 = .ok (.invokestatic 77, 3) := by decide +kernel
theorem dX3_introduce_4 : decode cX3_introduce 4 = .ok (.ifCond .ne 9, 3) := by decide +kernel
theorem dX3_introduce_7 : decode cX3_introduce 7 = .ok (.aload_n 0, 1) := by decide +kernel
theorem dX3_introduce_8 : decode cX3_introduce 8 = .ok (.iconst 0, 1) := by decide +kernel
theorem dX3_introduce_9 : decode cX3_introduce 9 = .ok (.invokevirtual 54, 3) := by decide +kernel
theorem dX3_introduce_12 : decode cX3_introduce 12 = .ok (.ireturn, 1) := by decide +kernel
theorem dX3_introduce_13 : decode cX3_introduce 13 = .ok (.aload_n 0, 1) := by decide +kernel
theorem dX3_introduce_14 : decode cX3_introduce 14 = .ok (.iload_n 1, 1) := by decide +kernel
theorem dX3_introduce_15 : decode cX3_introduce 15 = .ok (.invokevirtual 154, 3) := by decide +kernel
theorem dX3_introduce_18 : decode cX3_introduce 18 = .ok (.istore_n 2, 1) := by decide +kernel
theorem dX3_introduce_19 : decode cX3_introduce 19 = .ok (.iconst (-1), 1) := by decide +kernel
theorem dX3_introduce_20 : decode cX3_introduce 20 = .ok (.istore_n 3, 1) := by decide +kernel
theorem dX3_introduce_21 : decode cX3_introduce 21 = .ok (.iconst 0, 1) := by decide +kernel
theorem dX3_introduce_22 : decode cX3_introduce 22 = .ok (.istore 4, 2) := by decide +kernel
theorem dX3_introduce_24 : decode cX3_introduce 24 = .ok (.iload 4, 2) := by decide +kernel
theorem dX3_introduce_26 : decode cX3_introduce 26 = .ok (.bipush 6, 2) := by decide +kernel
theorem dX3_introduce_28 : decode cX3_introduce 28 = .ok (.if_icmp .ge 60, 3) := by decide +kernel
theorem dX3_introduce_31 : decode cX3_introduce 31 = .ok (.aload_n 0, 1) := by decide +kernel
theorem dX3_introduce_32 : decode cX3_introduce 32 = .ok (.getfield 12, 3) := by decide +kernel
theorem dX3_introduce_35 : decode cX3_introduce 35 = .ok (.iload 4, 2) := by decide +kernel
theorem dX3_introduce_37 : decode cX3_introduce 37 = .ok (.invokevirtual 104, 3) := by decide +kernel
theorem dX3_introduce_40 : decode cX3_introduce 40 = .ok (.ifCond .eq 6, 3) := by decide +kernel
theorem dX3_introduce_43 : decode cX3_introduce 43 = .ok (.goto 39, 3) := by decide +kernel
theorem dX3_introduce_46 : decode cX3_introduce 46 = .ok (.aload_n 0, 1) := by decide +kernel
theorem dX3_introduce_47 : decode cX3_introduce 47 = .ok (.invokevirtual 148, 3) := by decide +kernel
theorem dX3_introduce_50 : decode cX3_introduce 50 = .ok (.aload_n 0, 1) := by decide +kernel
theorem dX3_introduce_51 : decode cX3_introduce 51 = .ok (.getfield 19, 3) := by decide +kernel
theorem dX3_introduce_54 : decode cX3_introduce 54 = .ok (.iload 4, 2) := by decide +kernel
theorem dX3_introduce_56 : decode cX3_introduce 56 = .ok (.iconst 1, 1) := by decide +kernel
theorem dX3_introduce_57 : decode cX3_introduce 57 = .ok (.invokevirtual 107, 3) := by decide +kernel
theorem dX3_introduce_60 : decode cX3_introduce 60 = .ok (.aload_n 0, 1) := by decide +kernel
theorem dX3_introduce_61 : decode cX3_introduce 61 = .ok (.getfield 19, 3) := by decide +kernel
theorem dX3_introduce_64 : decode cX3_introduce 64 = .ok (.iload_n 1, 1) := by decide +kernel
theorem dX3_introduce_65 : decode cX3_introduce 65 = .ok (.invokevirtual 157, 3) := by decide +kernel
theorem dX3_introduce_68 : decode cX3_introduce 68 = .ok (.istore 5, 2) := by decide +kernel
theorem dX3_introduce_70 : decode cX3_introduce 70 = .ok (.iload 5, 2) := by decide +kernel
theorem dX3_introduce_72 : decode cX3_introduce 72 = .ok (.iload_n 2, 1) := by decide +kernel
theorem dX3_introduce_73 : decode cX3_introduce 73 = .ok (.if_icmp .ge 9, 3) := by decide +kernel
theorem dX3_introduce_76 : decode cX3_introduce 76 = .ok (.iload 5, 2) := by decide +kernel
theorem dX3_introduce_78 : decode cX3_introduce 78 = .ok (.istore_n 2, 1) := by decide +kernel
theorem dX3_introduce_79 : decode cX3_introduce 79 = .ok (.iload 4, 2) := by decide +kernel
theorem dX3_introduce_81 : decode cX3_introduce 81 = .ok (.istore_n 3, 1) := by decide +kernel
theorem dX3_introduce_82 : decode cX3_introduce 82 = .ok (.iinc 4 1, 3) := by decide +kernel
theorem dX3_introduce_85 : decode cX3_introduce 85 = .ok (.goto (-61), 3) := by decide +kernel
theorem dX3_introduce_88 : decode cX3_introduce 88 = .ok (.iload_n 3, 1) := by decide +kernel
theorem dX3_introduce_89 : decode cX3_introduce 89 = .ok (.ifCond .ge 11, 3) := by decide +kernel
theorem dX3_introduce_92 : decode cX3_introduce 92 = .ok (.aload_n 0, 1) := by decide +kernel
theorem dX3_introduce_93 : decode cX3_introduce 93 = .ok (.iconst 3, 1) := by decide +kernel
theorem dX3_introduce_94 : decode cX3_introduce 94 = .ok (.invokevirtual 54, 3) := by decide +kernel
theorem dX3_introduce_97 : decode cX3_introduce 97 = .ok (.goto 4, 3) := by decide +kernel
theorem dX3_introduce_100 : decode cX3_introduce 100 = .ok (.iload_n 3, 1) := by decide +kernel
theorem dX3_introduce_101 : decode cX3_introduce 101 = .ok (.ireturn, 1) := by decide +kernel
set_option maxRecDepth 20000 in
theorem ggX3_lime_X3_isMessage : GoodIn wsX3_lime wsX3_isMessage := goodIn_r _ [6] (by decide +kernel) (by decide +kernel)
set_option maxRecDepth 20000 in
theorem gX3_lime_X3_isMessage : GoodIn wsX3_lime (va_wsS RX3 77 yX3_isMessage wsX3_isMessage) := goodIn_app (goodIn_of _ (by decide +kernel)) ggX3_lime_X3_isMessage
set_option maxRecDepth 20000 in
theorem ggX3_lime_X3_finding : GoodIn wsX3_lime wsX3_finding := goodIn_r _ [10, 11, 12, 94, 95, 96, 97, 98, 99, 100, 101, 102] (by decide +kernel) (by decide +kernel)
set_option maxRecDepth 20000 in
theorem gX3_lime_X3_finding : GoodIn wsX3_lime (wsV RX3 54 RX3 yX3_finding wsX3_finding) := goodIn_app (goodIn_of _ (by decide +kernel)) ggX3_lime_X3_finding
set_option maxRecDepth 20000 in
theorem ggX3_lime_X3_homeAsItIs : GoodIn wsX3_lime wsX3_homeAsItIs := goodIn_r _ [16, 17, 18, 19, 20, 5, 21, 1, 22, 23, 24, 25, 26, 27, 28, 29, 30, 31, 32, 33, 34, 35, 36, 37, 38, 39, 40, 41, 42, 43, 44, 45, 46, 47, 48, 49, 50, 51, 52, 53, 54, 55, 56, 57, 58, 59, 60, 61, 62, 63, 64, 65, 66, 67, 68, 69, 70, 71, 72, 73, 74, 75, 76, 77, 78, 79, 80, 81, 82, 83, 84, 85, 86, 87, 88, 89, 94, 95, 96, 97, 98, 99, 100, 101, 102, 103, 104, 105, 106, 107, 108] (by decide +kernel) (by decide +kernel)
set_option maxRecDepth 20000 in
theorem gX3_lime_X3_homeAsItIs : GoodIn wsX3_lime (wsV RX3 154 RX3 yX3_homeAsItIs wsX3_homeAsItIs) := goodIn_app (goodIn_of _ (by decide +kernel)) ggX3_lime_X3_homeAsItIs
set_option maxRecDepth 20000 in
theorem ggX3_lime_X3_homeWithKind : GoodIn wsX3_lime wsX3_homeWithKind := goodIn_r _ [93, 17, 2, 18, 19, 20, 5, 21, 1, 22, 23, 24, 25, 26, 27, 28, 29, 30, 31, 32, 33, 34, 35, 36, 37, 38, 39, 40, 41, 42, 43, 44, 45, 46, 47, 48, 49, 50, 51, 52, 53, 54, 55, 56, 57, 58, 59, 60, 61, 62, 63, 64, 65, 66, 67, 68, 69, 70, 71, 72, 73, 74, 75, 76, 77, 78, 79, 80, 81, 82, 83, 84, 85, 86, 87, 88, 89, 94, 95, 96, 97, 98, 99, 100, 101, 102, 103, 104, 105, 106, 107, 108] (by decide +kernel) (by decide +kernel)
set_option maxRecDepth 20000 in
theorem gX3_lime_X3_homeWithKind : GoodIn wsX3_lime (wsV RX3 160 RX3 yX3_homeWithKind wsX3_homeWithKind) := goodIn_app (goodIn_of _ (by decide +kernel)) ggX3_lime_X3_homeWithKind
theorem dX3_lime_0 : decode cX3_lime 0 = .ok (.iload_n 1, 1) := by decide +kernel
theorem dX3_lime_1 : decode cX3_lime 1 = .ok (.invokestatic 77, 3) := by decide +kernel
theorem dX3_lime_4 : decode cX3_lime 4 = .ok (.ifCond .ne 9, 3) := by decide +kernel
theorem dX3_lime_7 : decode cX3_lime 7 = .ok (.aload_n 0, 1) := by decide +kernel
theorem dX3_lime_8 : decode cX3_lime 8 = .ok (.iconst 0, 1) := by decide +kernel
theorem dX3_lime_9 : decode cX3_lime 9 = .ok (.invokevirtual 54, 3) := by decide +kernel
theorem dX3_lime_12 : decode cX3_lime 12 = .ok (.ireturn, 1) := by decide +kernel
theorem dX3_lime_13 : decode cX3_lime 13 = .ok (.aload_n 0, 1) := by decide +kernel
theorem dX3_lime_14 : decode cX3_lime 14 = .ok (.iload_n 1, 1) := by decide +kernel
theorem dX3_lime_15 : decode cX3_lime 15 = .ok (.invokevirtual 154, 3) := by decide +kernel
theorem dX3_lime_18 : decode cX3_lime 18 = .ok (.istore_n 2, 1) := by decide +kernel
theorem dX3_lime_19 : decode cX3_lime 19 = .ok (.iconst (-1), 1) := by decide +kernel
theorem dX3_lime_20 : decode cX3_lime 20 = .ok (.istore_n 3, 1) := by decide +kernel
theorem dX3_lime_21 : decode cX3_lime 21 = .ok (.iconst 0, 1) := by decide +kernel
theorem dX3_lime_22 : decode cX3_lime 22 = .ok (.istore 4, 2) := by decide +kernel
theorem dX3_lime_24 : decode cX3_lime 24 = .ok (.iload 4, 2) := by decide +kernel
theorem dX3_lime_26 : decode cX3_lime 26 = .ok (.bipush 12, 2) := by decide +kernel
theorem dX3_lime_28 : decode cX3_lime 28 = .ok (.if_icmp .ge 47, 3) := by decide +kernel
theorem dX3_lime_31 : decode cX3_lime 31 = .ok (.aload_n 0, 1) := by decide +kernel
theorem dX3_lime_32 : decode cX3_lime 32 = .ok (.getfield 12, 3) := by decide +kernel
theorem dX3_lime_35 : decode cX3_lime 35 = .ok (.getfield 58, 3) := by decide +kernel
theorem dX3_lime_38 : decode cX3_lime 38 = .ok (.iload 4, 2) := by decide +kernel
theorem dX3_lime_40 : decode cX3_lime 40 = .ok (.iaload, 1) := by decide +kernel
theorem dX3_lime_41 : decode cX3_lime 41 = .ok (.ifCond .ne 6, 3) := by decide +kernel
theorem dX3_lime_44 : decode cX3_lime 44 = .ok (.goto 25, 3) := by decide +kernel
theorem dX3_lime_47 : decode cX3_lime 47 = .ok (.aload_n 0, 1) := by decide +kernel
theorem dX3_lime_48 : decode cX3_lime 48 = .ok (.iload 4, 2) := by decide +kernel
theorem dX3_lime_50 : decode cX3_lime 50 = .ok (.iconst 0, 1) := by decide +kernel
theorem dX3_lime_51 : decode cX3_lime 51 = .ok (.iload_n 1, 1) := by decide +kernel
theorem dX3_lime_52 : decode cX3_lime 52 = .ok (.invokevirtual 160, 3) := by decide +kernel
theorem dX3_lime_55 : decode cX3_lime 55 = .ok (.istore 5, 2) := by decide +kernel
theorem dX3_lime_57 : decode cX3_lime 57 = .ok (.iload 5, 2) := by decide +kernel
theorem dX3_lime_59 : decode cX3_lime 59 = .ok (.iload_n 2, 1) := by decide +kernel
theorem dX3_lime_60 : decode cX3_lime 60 = .ok (.if_icmp .ge 9, 3) := by decide +kernel
theorem dX3_lime_63 : decode cX3_lime 63 = .ok (.iload 5, 2) := by decide +kernel
theorem dX3_lime_65 : decode cX3_lime 65 = .ok (.istore_n 2, 1) := by decide +kernel
theorem dX3_lime_66 : decode cX3_lime 66 = .ok (.iload 4, 2) := by decide +kernel
theorem dX3_lime_68 : decode cX3_lime 68 = .ok (.istore_n 3, 1) := by decide +kernel
theorem dX3_lime_69 : decode cX3_lime 69 = .ok (.iinc 4 1, 3) := by decide +kernel
theorem dX3_lime_72 : decode cX3_lime 72 = .ok (.goto (-48), 3) := by decide +kernel
theorem dX3_lime_75 : decode cX3_lime 75 = .ok (.iload_n 3, 1) := by decide +kernel
theorem dX3_lime_76 : decode cX3_lime 76 = .ok (.ifCond .ge 11, 3) := by decide +kernel
theorem dX3_lime_79 : decode cX3_lime 79 = .ok (.aload_n 0, 1) := by decide +kernel
theorem dX3_lime_80 : decode cX3_lime 80 = .ok (.iconst 3, 1) := by decide +kernel
theorem dX3_lime_81 : decode cX3_lime 81 = .ok (.invokevirtual 54, 3) := by decide +kernel
theorem dX3_lime_84 : decode cX3_lime 84 = .ok (.goto 4, 3) := by decide +kernel
theorem dX3_lime_87 : decode cX3_lime 87 = .ok (.iload_n 3, 1) := by decide +kernel
theorem dX3_lime_88 : decode cX3_lime 88 = .ok (.ireturn, 1) := by decide +kernel
set_option maxRecDepth 20000 in
theorem ggX3_kind_X3_isTree : GoodIn wsX3_kind wsX3_isTree := goodIn_r _ [4] (by decide +kernel) (by decide +kernel)
set_option maxRecDepth 20000 in
theorem gX3_kind_X3_isTree : GoodIn wsX3_kind (va_wsS RX3 50 yX3_isTree wsX3_isTree) := goodIn_app (goodIn_of _ (by decide +kernel)) ggX3_kind_X3_isTree
set_option maxRecDepth 20000 in
theorem ggX3_kind_X3_isMessage : GoodIn wsX3_kind wsX3_isMessage := goodIn_r _ [7] (by decide +kernel) (by decide +kernel)
set_option maxRecDepth 20000 in
theorem gX3_kind_X3_isMessage : GoodIn wsX3_kind (va_wsS RX3 77 yX3_isMessage wsX3_isMessage) := goodIn_app (goodIn_of _ (by decide +kernel)) ggX3_kind_X3_isMessage
set_option maxRecDepth 20000 in
theorem ggX3_kind_X3_finding : GoodIn wsX3_kind wsX3_finding := goodIn_r _ [11, 12, 13, 93, 94, 95, 96, 97, 98, 99, 100, 101] (by decide +kernel) (by decide +kernel)
set_option maxRecDepth 20000 in
theorem gX3_kind_X3_finding : GoodIn wsX3_kind (wsV RX3 54 RX3 yX3_finding wsX3_finding) := goodIn_app (goodIn_of _ (by decide +kernel)) ggX3_kind_X3_finding
set_option maxRecDepth 20000 in
theorem ggX3_kind_X3_homeWithKind : GoodIn wsX3_kind wsX3_homeWithKind := goodIn_r _ [17, 18, 19, 20, 21, 22, 3, 23, 24, 25, 26, 27, 28, 29, 30, 31, 32, 33, 34, 35, 36, 37, 38, 39, 40, 41, 42, 43, 44, 45, 46, 47, 48, 49, 50, 51, 52, 53, 54, 55, 56, 57, 58, 59, 60, 61, 62, 63, 64, 65, 66, 67, 68, 69, 70, 71, 72, 73, 74, 75, 76, 77, 78, 79, 80, 81, 82, 83, 84, 85, 86, 87, 88, 89, 90, 91, 92, 93, 94, 95, 96, 97, 98, 99, 100, 101, 102, 103, 104, 105, 106, 107] (by decide +kernel) (by decide +kernel)
set_option maxRecDepth 20000 in
theorem gX3_kind_X3_homeWithKind : GoodIn wsX3_kind (wsV RX3 160 RX3 yX3_homeWithKind wsX3_homeWithKind) := goodIn_app (goodIn_of _ (by decide +kernel)) ggX3_kind_X3_homeWithKind
theorem dX3_kind_0 : decode cX3_kind 0 = .ok (.iload_n 1, 1) := by decide +kernel
theorem dX3_kind_1 : decode cX3_kind 1 = .ok (.invokestatic 50, 3) := by decide +kernel
theorem dX3_kind_4 : decode cX3_kind 4 = .ok (.ifCond .eq 10, 3) := by decide +kernel
theorem dX3_kind_7 : decode cX3_kind 7 = .ok (.iload_n 2, 1) := by decide +kernel
theorem dX3_kind_8 : decode cX3_kind 8 = .ok (.invokestatic 77, 3) := by decide +kernel
theorem dX3_kind_11 : decode cX3_kind 11 = .ok (.ifCond .ne 9, 3) := by decide +kernel
theorem dX3_kind_14 : decode cX3_kind 14 = .ok (.aload_n 0, 1) := by decide +kernel
theorem dX3_kind_15 : decode cX3_kind 15 = .ok (.iconst 0, 1) := by decide +kernel
theorem dX3_kind_16 : decode cX3_kind 16 = .ok (.invokevirtual 54, 3) := by decide +kernel
theorem dX3_kind_19 : decode cX3_kind 19 = .ok (.ireturn, 1) := by decide +kernel
theorem dX3_kind_20 : decode cX3_kind 20 = .ok (.sipush 201, 3) := by decide +kernel
theorem dX3_kind_23 : decode cX3_kind 23 = .ok (.istore_n 3, 1) := by decide +kernel
theorem dX3_kind_24 : decode cX3_kind 24 = .ok (.iconst (-1), 1) := by decide +kernel
theorem dX3_kind_25 : decode cX3_kind 25 = .ok (.istore 4, 2) := by decide +kernel
theorem dX3_kind_27 : decode cX3_kind 27 = .ok (.iconst 0, 1) := by decide +kernel
theorem dX3_kind_28 : decode cX3_kind 28 = .ok (.istore 5, 2) := by decide +kernel
theorem dX3_kind_30 : decode cX3_kind 30 = .ok (.iload 5, 2) := by decide +kernel
theorem dX3_kind_32 : decode cX3_kind 32 = .ok (.bipush 6, 2) := by decide +kernel
theorem dX3_kind_34 : decode cX3_kind 34 = .ok (.if_icmp .ge 32, 3) := by decide +kernel
theorem dX3_kind_37 : decode cX3_kind 37 = .ok (.aload_n 0, 1) := by decide +kernel
theorem dX3_kind_38 : decode cX3_kind 38 = .ok (.iload_n 1, 1) := by decide +kernel
theorem dX3_kind_39 : decode cX3_kind 39 = .ok (.iload 5, 2) := by decide +kernel
theorem dX3_kind_41 : decode cX3_kind 41 = .ok (.iload_n 2, 1) := by decide +kernel
theorem dX3_kind_42 : decode cX3_kind 42 = .ok (.invokevirtual 160, 3) := by decide +kernel
theorem dX3_kind_45 : decode cX3_kind 45 = .ok (.istore 6, 2) := by decide +kernel
theorem dX3_kind_47 : decode cX3_kind 47 = .ok (.iload 6, 2) := by decide +kernel
theorem dX3_kind_49 : decode cX3_kind 49 = .ok (.iload_n 3, 1) := by decide +kernel
theorem dX3_kind_50 : decode cX3_kind 50 = .ok (.if_icmp .ge 10, 3) := by decide +kernel
theorem dX3_kind_53 : decode cX3_kind 53 = .ok (.iload 6, 2) := by decide +kernel
theorem dX3_kind_55 : decode cX3_kind 55 = .ok (.istore_n 3, 1) := by decide +kernel
theorem dX3_kind_56 : decode cX3_kind 56 = .ok (.iload 5, 2) := by decide +kernel
theorem dX3_kind_58 : decode cX3_kind 58 = .ok (.istore 4, 2) := by decide +kernel
theorem dX3_kind_60 : decode cX3_kind 60 = .ok (.iinc 5 1, 3) := by decide +kernel
theorem dX3_kind_63 : decode cX3_kind 63 = .ok (.goto (-33), 3) := by decide +kernel
theorem dX3_kind_66 : decode cX3_kind 66 = .ok (.iload 4, 2) := by decide +kernel
theorem dX3_kind_68 : decode cX3_kind 68 = .ok (.ifCond .ge 11, 3) := by decide +kernel
theorem dX3_kind_71 : decode cX3_kind 71 = .ok (.aload_n 0, 1) := by decide +kernel
theorem dX3_kind_72 : decode cX3_kind 72 = .ok (.iconst 3, 1) := by decide +kernel
theorem dX3_kind_73 : decode cX3_kind 73 = .ok (.invokevirtual 54, 3) := by decide +kernel
theorem dX3_kind_76 : decode cX3_kind 76 = .ok (.goto 5, 3) := by decide +kernel
theorem dX3_kind_79 : decode cX3_kind 79 = .ok (.iload 4, 2) := by decide +kernel
theorem dX3_kind_81 : decode cX3_kind 81 = .ok (.ireturn, 1) := by decide +kernel
set_option maxRecDepth 20000 in
theorem ggX3_delay_X3_finding : GoodIn wsX3_delay wsX3_finding := goodIn_r _ [7, 8, 9, 101, 102, 103, 104, 105, 106, 107, 108, 109] (by decide +kernel) (by decide +kernel)
set_option maxRecDepth 20000 in
theorem gX3_delay_X3_finding : GoodIn wsX3_delay (wsV RX3 54 RX3 yX3_finding wsX3_finding) := goodIn_app (goodIn_of _ (by decide +kernel)) ggX3_delay_X3_finding
set_option maxRecDepth 20000 in
theorem ggX3_delay_X3_suppose : GoodIn wsX3_delay wsX3_suppose := goodIn_r _ [13, 2, 14, 15, 16, 17, 18, 19, 20, 21, 22, 23, 24, 25, 26, 27, 28, 29, 101, 102, 103, 104, 105, 106, 107, 108, 109, 110, 111, 112, 113, 114, 115] (by decide +kernel) (by decide +kernel)
set_option maxRecDepth 20000 in
theorem gX3_delay_X3_suppose : GoodIn wsX3_delay (wsV RX3 148 RX3 yX3_suppose wsX3_suppose) := goodIn_app (goodIn_of _ (by decide +kernel)) ggX3_delay_X3_suppose
set_option maxRecDepth 20000 in
theorem ggX3_delay_X0_become : GoodIn wsX3_delay wsX0_become := goodIn_r _ [19, 20, 21, 22, 23, 24, 25, 26, 27, 28, 29, 110, 111, 112, 113, 114, 115] (by decide +kernel) (by decide +kernel)
set_option maxRecDepth 20000 in
theorem gX3_delay_X0_become : GoodIn wsX3_delay (wsV RX3 164 RX0 yX0_become wsX0_become) := goodIn_app (goodIn_of _ (by decide +kernel)) ggX3_delay_X0_become
set_option maxRecDepth 20000 in
theorem ggX3_delay_X0_blow : GoodIn wsX3_delay wsX0_blow := goodIn_r _ [33, 34, 35, 36, 18, 37, 28, 38, 39, 40, 41, 42, 43, 44, 45, 46, 47, 48, 49, 50, 51, 52, 22, 20, 27, 53, 54, 55, 56, 57, 58, 59, 60, 29, 110, 111, 112, 113, 114, 115] (by decide +kernel) (by decide +kernel)
set_option maxRecDepth 20000 in
theorem gX3_delay_X0_blow : GoodIn wsX3_delay (wsV RX3 133 RX0 yX0_blow wsX0_blow) := goodIn_app (goodIn_of _ (by decide +kernel)) ggX3_delay_X0_blow
set_option maxRecDepth 20000 in
theorem ggX3_delay_X0_passYears : GoodIn wsX3_delay wsX0_passYears := goodIn_r _ [64, 65, 66, 67, 18, 68, 27, 69, 70, 71, 72, 20, 73, 74, 75, 76, 28, 77, 78, 79, 80, 21, 49, 50, 51, 52, 22, 81, 82, 83, 84, 85, 86, 87, 88, 89, 90, 91, 92, 93, 94, 95, 29, 57, 58, 59, 60, 96, 97, 98, 99, 110, 111, 112, 113, 114, 115] (by decide +kernel) (by decide +kernel)
set_option maxRecDepth 20000 in
theorem gX3_delay_X0_passYears : GoodIn wsX3_delay (wsV RX3 125 RX0 yX0_passYears wsX0_passYears) := goodIn_app (goodIn_of _ (by decide +kernel)) ggX3_delay_X0_passYears
set_option maxRecDepth 20000 in
theorem ggX3_delay_X0_knownInAll : GoodIn wsX3_delay wsX0_knownInAll := goodIn_r _ [37, 28, 38, 39, 40, 41, 42, 43, 44, 110, 111, 112, 113, 114, 115] (by decide +kernel) (by decide +kernel)
set_option maxRecDepth 20000 in
theorem gX3_delay_X0_knownInAll : GoodIn wsX3_delay (wsV RX3 142 RX0 yX0_knownInAll wsX0_knownInAll) := goodIn_app (goodIn_of _ (by decide +kernel)) ggX3_delay_X0_knownInAll
theorem dX3_delay_0 : decode cX3_delay 0 = .ok (.iload_n 1, 1) := by decide +kernel
theorem dX3_delay_1 : decode cX3_delay 1 = .ok (.ifCond .lt 9, 3) := by decide +kernel
theorem dX3_delay_4 : decode cX3_delay 4 = .ok (.iload_n 1, 1) := by decide +kernel
theorem dX3_delay_5 : decode cX3_delay 5 = .ok (.bipush 60, 2) := by decide +kernel
theorem dX3_delay_7 : decode cX3_delay 7 = .ok (.if_icmp .le 9, 3) := by decide +kernel
theorem dX3_delay_10 : decode cX3_delay 10 = .ok (.aload_n 0, 1) := by decide +kernel
theorem dX3_delay_11 : decode cX3_delay 11 = .ok (.iconst 0, 1) := by decide +kernel
theorem dX3_delay_12 : decode cX3_delay 12 = .ok (.invokevirtual 54, 3) := by decide +kernel
theorem dX3_delay_15 : decode cX3_delay 15 = .ok (.ireturn, 1) := by decide +kernel
theorem dX3_delay_16 : decode cX3_delay 16 = .ok (.iconst (-1), 1) := by decide +kernel
theorem dX3_delay_17 : decode cX3_delay 17 = .ok (.istore_n 2, 1) := by decide +kernel
theorem dX3_delay_18 : decode cX3_delay 18 = .ok (.iconst 0, 1) := by decide +kernel
theorem dX3_delay_19 : decode cX3_delay 19 = .ok (.istore_n 3, 1) := by decide +kernel
theorem dX3_delay_20 : decode cX3_delay 20 = .ok (.aload_n 0, 1) := by decide +kernel
theorem dX3_delay_21 : decode cX3_delay 21 = .ok (.invokevirtual 148, 3) := by decide +kernel
theorem dX3_delay_24 : decode cX3_delay 24 = .ok (.iconst 0, 1) := by decide +kernel
theorem dX3_delay_25 : decode cX3_delay 25 = .ok (.istore 4, 2) := by decide +kernel
theorem dX3_delay_27 : decode cX3_delay 27 = .ok (.iload 4, 2) := by decide +kernel
theorem dX3_delay_29 : decode cX3_delay 29 = .ok (.iload_n 1, 1) := by decide +kernel
theorem dX3_delay_30 : decode cX3_delay 30 = .ok (.if_icmp .gt 68, 3) := by decide +kernel
theorem dX3_delay_33 : decode cX3_delay 33 = .ok (.aload_n 0, 1) := by decide +kernel
theorem dX3_delay_34 : decode cX3_delay 34 = .ok (.getfield 22, 3) := by decide +kernel
theorem dX3_delay_37 : decode cX3_delay 37 = .ok (.aload_n 0, 1) := by decide +kernel
theorem dX3_delay_38 : decode cX3_delay 38 = .ok (.getfield 19, 3) := by decide +kernel
theorem dX3_delay_41 : decode cX3_delay 41 = .ok (.invokevirtual 164, 3) := by decide +kernel
theorem dX3_delay_44 : decode cX3_delay 44 = .ok (.aload_n 0, 1) := by decide +kernel
theorem dX3_delay_45 : decode cX3_delay 45 = .ok (.getfield 22, 3) := by decide +kernel
theorem dX3_delay_48 : decode cX3_delay 48 = .ok (.invokevirtual 133, 3) := by decide +kernel
theorem dX3_delay_51 : decode cX3_delay 51 = .ok (.pop, 1) := by decide +kernel
theorem dX3_delay_52 : decode cX3_delay 52 = .ok (.aload_n 0, 1) := by decide +kernel
theorem dX3_delay_53 : decode cX3_delay 53 = .ok (.getfield 22, 3) := by decide +kernel
theorem dX3_delay_56 : decode cX3_delay 56 = .ok (.iload_n 1, 1) := by decide +kernel
theorem dX3_delay_57 : decode cX3_delay 57 = .ok (.iload 4, 2) := by decide +kernel
theorem dX3_delay_59 : decode cX3_delay 59 = .ok (.isub, 1) := by decide +kernel
theorem dX3_delay_60 : decode cX3_delay 60 = .ok (.invokevirtual 125, 3) := by decide +kernel
theorem dX3_delay_63 : decode cX3_delay 63 = .ok (.aload_n 0, 1) := by decide +kernel
theorem dX3_delay_64 : decode cX3_delay 64 = .ok (.getfield 22, 3) := by decide +kernel
theorem dX3_delay_67 : decode cX3_delay 67 = .ok (.invokevirtual 142, 3) := by decide +kernel
theorem dX3_delay_70 : decode cX3_delay 70 = .ok (.istore 5, 2) := by decide +kernel
theorem dX3_delay_72 : decode cX3_delay 72 = .ok (.iload 5, 2) := by decide +kernel
theorem dX3_delay_74 : decode cX3_delay 74 = .ok (.iload_n 2, 1) := by decide +kernel
theorem dX3_delay_75 : decode cX3_delay 75 = .ok (.if_icmp .le 9, 3) := by decide +kernel
theorem dX3_delay_78 : decode cX3_delay 78 = .ok (.iload 5, 2) := by decide +kernel
theorem dX3_delay_80 : decode cX3_delay 80 = .ok (.istore_n 2, 1) := by decide +kernel
theorem dX3_delay_81 : decode cX3_delay 81 = .ok (.iload 4, 2) := by decide +kernel
theorem dX3_delay_83 : decode cX3_delay 83 = .ok (.istore_n 3, 1) := by decide +kernel
theorem dX3_delay_84 : decode cX3_delay 84 = .ok (.aload_n 0, 1) := by decide +kernel
theorem dX3_delay_85 : decode cX3_delay 85 = .ok (.getfield 19, 3) := by decide +kernel
theorem dX3_delay_88 : decode cX3_delay 88 = .ok (.iconst 1, 1) := by decide +kernel
theorem dX3_delay_89 : decode cX3_delay 89 = .ok (.invokevirtual 125, 3) := by decide +kernel
theorem dX3_delay_92 : decode cX3_delay 92 = .ok (.iinc 4 1, 3) := by decide +kernel
theorem dX3_delay_95 : decode cX3_delay 95 = .ok (.goto (-68), 3) := by decide +kernel
theorem dX3_delay_98 : decode cX3_delay 98 = .ok (.iload_n 3, 1) := by decide +kernel
theorem dX3_delay_99 : decode cX3_delay 99 = .ok (.ireturn, 1) := by decide +kernel
set_option maxRecDepth 20000 in
theorem ggX3_side_X3_isMessage : GoodIn wsX3_side wsX3_isMessage := goodIn_r _ [6] (by decide +kernel) (by decide +kernel)
set_option maxRecDepth 20000 in
theorem gX3_side_X3_isMessage : GoodIn wsX3_side (va_wsS RX3 77 yX3_isMessage wsX3_isMessage) := goodIn_app (goodIn_of _ (by decide +kernel)) ggX3_side_X3_isMessage
set_option maxRecDepth 20000 in
theorem ggX3_side_X3_finding : GoodIn wsX3_side wsX3_finding := goodIn_r _ [10, 11, 12, 91, 92, 93, 94, 95, 96, 97, 98, 99] (by decide +kernel) (by decide +kernel)
set_option maxRecDepth 20000 in
theorem gX3_side_X3_finding : GoodIn wsX3_side (wsV RX3 54 RX3 yX3_finding wsX3_finding) := goodIn_app (goodIn_of _ (by decide +kernel)) ggX3_side_X3_finding
set_option maxRecDepth 20000 in
theorem ggX3_side_X0_knowers : GoodIn wsX3_side wsX0_knowers := goodIn_r _ [17, 18, 19, 20, 16, 21, 22, 100, 101, 102, 103, 104, 105] (by decide +kernel) (by decide +kernel)
set_option maxRecDepth 20000 in
theorem gX3_side_X0_knowers : GoodIn wsX3_side (wsV RX3 115 RX0 yX0_knowers wsX0_knowers) := goodIn_app (goodIn_of _ (by decide +kernel)) ggX3_side_X0_knowers
set_option maxRecDepth 20000 in
theorem ggX3_side_X3_suppose : GoodIn wsX3_side wsX3_suppose := goodIn_r _ [26, 2, 1, 27, 28, 29, 16, 30, 31, 32, 33, 34, 35, 36, 37, 38, 22, 39, 91, 92, 93, 94, 95, 96, 97, 98, 99, 100, 101, 102, 103, 104, 105] (by decide +kernel) (by decide +kernel)
set_option maxRecDepth 20000 in
theorem gX3_side_X3_suppose : GoodIn wsX3_side (wsV RX3 148 RX3 yX3_suppose wsX3_suppose) := goodIn_app (goodIn_of _ (by decide +kernel)) ggX3_side_X3_suppose
set_option maxRecDepth 20000 in
theorem ggX3_side_X3_treeAt : GoodIn wsX3_side wsX3_treeAt := goodIn_r _ [42] (by decide +kernel) (by decide +kernel)
set_option maxRecDepth 20000 in
theorem gX3_side_X3_treeAt : GoodIn wsX3_side (va_wsS RX3 168 yX3_treeAt wsX3_treeAt) := goodIn_app (goodIn_of _ (by decide +kernel)) ggX3_side_X3_treeAt
set_option maxRecDepth 20000 in
theorem ggX3_side_X0_learn : GoodIn wsX3_side wsX0_learn := goodIn_r _ [46, 22, 39, 31, 100, 101, 102, 103, 104, 105] (by decide +kernel) (by decide +kernel)
set_option maxRecDepth 20000 in
theorem gX3_side_X0_learn : GoodIn wsX3_side (wsV RX3 111 RX0 yX0_learn wsX0_learn) := goodIn_app (goodIn_of _ (by decide +kernel)) ggX3_side_X0_learn
set_option maxRecDepth 20000 in
theorem ggX3_side_X0_goHome : GoodIn wsX3_side wsX0_goHome := goodIn_r _ [50, 41, 5, 42, 18, 19, 20, 16, 21, 22, 51, 52, 53, 54, 38, 55, 56, 57, 58, 31, 59, 60, 61, 62, 63, 64, 65, 66, 32, 67, 68, 69, 70, 33, 71, 72, 73, 74, 75, 76, 77, 78, 79, 80, 81, 82, 83, 84, 85, 39, 86, 44, 45, 46, 87, 88, 89, 90, 100, 101, 102, 103, 104, 105] (by decide +kernel) (by decide +kernel)
set_option maxRecDepth 20000 in
theorem gX3_side_X0_goHome : GoodIn wsX3_side (wsV RX3 157 RX0 yX0_goHome wsX0_goHome) := goodIn_app (goodIn_of _ (by decide +kernel)) ggX3_side_X0_goHome
theorem dX3_side_0 : decode cX3_side 0 = .ok (.iload_n 1, 1) := by decide +kernel
theorem dX3_side_1 : decode cX3_side 1 = .ok (.invokestatic 77, 3) := by decide +kernel
theorem dX3_side_4 : decode cX3_side 4 = .ok (.ifCond .ne 9, 3) := by decide +kernel
theorem dX3_side_7 : decode cX3_side 7 = .ok (.aload_n 0, 1) := by decide +kernel
theorem dX3_side_8 : decode cX3_side 8 = .ok (.iconst 0, 1) := by decide +kernel
theorem dX3_side_9 : decode cX3_side 9 = .ok (.invokevirtual 54, 3) := by decide +kernel
theorem dX3_side_12 : decode cX3_side 12 = .ok (.ireturn, 1) := by decide +kernel
theorem dX3_side_13 : decode cX3_side 13 = .ok (.aload_n 0, 1) := by decide +kernel
theorem dX3_side_14 : decode cX3_side 14 = .ok (.getfield 12, 3) := by decide +kernel
theorem dX3_side_17 : decode cX3_side 17 = .ok (.iload_n 1, 1) := by decide +kernel
theorem dX3_side_18 : decode cX3_side 18 = .ok (.invokevirtual 115, 3) := by decide +kernel
theorem dX3_side_21 : decode cX3_side 21 = .ok (.ifCond .le 9, 3) := by decide +kernel
theorem dX3_side_24 : decode cX3_side 24 = .ok (.aload_n 0, 1) := by decide +kernel
theorem dX3_side_25 : decode cX3_side 25 = .ok (.iconst 4, 1) := by decide +kernel
theorem dX3_side_26 : decode cX3_side 26 = .ok (.invokevirtual 54, 3) := by decide +kernel
theorem dX3_side_29 : decode cX3_side 29 = .ok (.ireturn, 1) := by decide +kernel
theorem dX3_side_30 : decode cX3_side 30 = .ok (.sipush 201, 3) := by decide +kernel
theorem dX3_side_33 : decode cX3_side 33 = .ok (.istore_n 2, 1) := by decide +kernel
theorem dX3_side_34 : decode cX3_side 34 = .ok (.iconst (-1), 1) := by decide +kernel
theorem dX3_side_35 : decode cX3_side 35 = .ok (.istore_n 3, 1) := by decide +kernel
theorem dX3_side_36 : decode cX3_side 36 = .ok (.iconst 0, 1) := by decide +kernel
theorem dX3_side_37 : decode cX3_side 37 = .ok (.istore 4, 2) := by decide +kernel
theorem dX3_side_39 : decode cX3_side 39 = .ok (.iload 4, 2) := by decide +kernel
theorem dX3_side_41 : decode cX3_side 41 = .ok (.iconst 2, 1) := by decide +kernel
theorem dX3_side_42 : decode cX3_side 42 = .ok (.if_icmp .ge 49, 3) := by decide +kernel
theorem dX3_side_45 : decode cX3_side 45 = .ok (.aload_n 0, 1) := by decide +kernel
theorem dX3_side_46 : decode cX3_side 46 = .ok (.invokevirtual 148, 3) := by decide +kernel
theorem dX3_side_49 : decode cX3_side 49 = .ok (.aload_n 0, 1) := by decide +kernel
theorem dX3_side_50 : decode cX3_side 50 = .ok (.getfield 19, 3) := by decide +kernel
theorem dX3_side_53 : decode cX3_side 53 = .ok (.iconst 0, 1) := by decide +kernel
theorem dX3_side_54 : decode cX3_side 54 = .ok (.iload 4, 2) := by decide +kernel
theorem dX3_side_56 : decode cX3_side 56 = .ok (.invokestatic 168, 3) := by decide +kernel
theorem dX3_side_59 : decode cX3_side 59 = .ok (.iload_n 1, 1) := by decide +kernel
theorem dX3_side_60 : decode cX3_side 60 = .ok (.invokevirtual 111, 3) := by decide +kernel
theorem dX3_side_63 : decode cX3_side 63 = .ok (.aload_n 0, 1) := by decide +kernel
theorem dX3_side_64 : decode cX3_side 64 = .ok (.getfield 19, 3) := by decide +kernel
theorem dX3_side_67 : decode cX3_side 67 = .ok (.iload_n 1, 1) := by decide +kernel
theorem dX3_side_68 : decode cX3_side 68 = .ok (.invokevirtual 157, 3) := by decide +kernel
theorem dX3_side_71 : decode cX3_side 71 = .ok (.istore 5, 2) := by decide +kernel
theorem dX3_side_73 : decode cX3_side 73 = .ok (.iload 5, 2) := by decide +kernel
theorem dX3_side_75 : decode cX3_side 75 = .ok (.iload_n 2, 1) := by decide +kernel
theorem dX3_side_76 : decode cX3_side 76 = .ok (.if_icmp .ge 9, 3) := by decide +kernel
theorem dX3_side_79 : decode cX3_side 79 = .ok (.iload 5, 2) := by decide +kernel
theorem dX3_side_81 : decode cX3_side 81 = .ok (.istore_n 2, 1) := by decide +kernel
theorem dX3_side_82 : decode cX3_side 82 = .ok (.iload 4, 2) := by decide +kernel
theorem dX3_side_84 : decode cX3_side 84 = .ok (.istore_n 3, 1) := by decide +kernel
theorem dX3_side_85 : decode cX3_side 85 = .ok (.iinc 4 1, 3) := by decide +kernel
theorem dX3_side_88 : decode cX3_side 88 = .ok (.goto (-49), 3) := by decide +kernel
theorem dX3_side_91 : decode cX3_side 91 = .ok (.iload_n 3, 1) := by decide +kernel
theorem dX3_side_92 : decode cX3_side 92 = .ok (.ifCond .ge 11, 3) := by decide +kernel
theorem dX3_side_95 : decode cX3_side 95 = .ok (.aload_n 0, 1) := by decide +kernel
theorem dX3_side_96 : decode cX3_side 96 = .ok (.iconst 3, 1) := by decide +kernel
theorem dX3_side_97 : decode cX3_side 97 = .ok (.invokevirtual 54, 3) := by decide +kernel
theorem dX3_side_100 : decode cX3_side 100 = .ok (.goto 4, 3) := by decide +kernel
theorem dX3_side_103 : decode cX3_side 103 = .ok (.iload_n 3, 1) := by decide +kernel
theorem dX3_side_104 : decode cX3_side 104 = .ok (.ireturn, 1) := by decide +kernel
set_option maxRecDepth 20000 in
theorem ggX3_needed_X3_isMessage : GoodIn wsX3_needed wsX3_isMessage := goodIn_r _ [5] (by decide +kernel) (by decide +kernel)
set_option maxRecDepth 20000 in
theorem gX3_needed_X3_isMessage : GoodIn wsX3_needed (va_wsS RX3 77 yX3_isMessage wsX3_isMessage) := goodIn_app (goodIn_of _ (by decide +kernel)) ggX3_needed_X3_isMessage
set_option maxRecDepth 20000 in
theorem ggX3_needed_X3_finding : GoodIn wsX3_needed wsX3_finding := goodIn_r _ [9, 10, 11, 89, 90, 91, 92, 93, 94, 95, 96, 97] (by decide +kernel) (by decide +kernel)
set_option maxRecDepth 20000 in
theorem gX3_needed_X3_finding : GoodIn wsX3_needed (wsV RX3 54 RX3 yX3_finding wsX3_finding) := goodIn_app (goodIn_of _ (by decide +kernel)) ggX3_needed_X3_finding
set_option maxRecDepth 20000 in
theorem ggX3_needed_X3_suppose : GoodIn wsX3_needed wsX3_suppose := goodIn_r _ [15, 1, 16, 17, 18, 19, 20, 21, 22, 23, 24, 25, 26, 27, 28, 29, 30, 31, 89, 90, 91, 92, 93, 94, 95, 96, 97, 98, 99, 100, 101, 102, 103] (by decide +kernel) (by decide +kernel)
set_option maxRecDepth 20000 in
theorem gX3_needed_X3_suppose : GoodIn wsX3_needed (wsV RX3 148 RX3 yX3_suppose wsX3_suppose) := goodIn_app (goodIn_of _ (by decide +kernel)) ggX3_needed_X3_suppose
set_option maxRecDepth 20000 in
theorem ggX3_needed_X0_setAnew : GoodIn wsX3_needed wsX0_setAnew := goodIn_r _ [35, 24, 29, 30, 98, 99, 100, 101, 102, 103] (by decide +kernel) (by decide +kernel)
set_option maxRecDepth 20000 in
theorem gX3_needed_X0_setAnew : GoodIn wsX3_needed (wsV RX3 91 RX0 yX0_setAnew wsX0_setAnew) := goodIn_app (goodIn_of _ (by decide +kernel)) ggX3_needed_X0_setAnew
set_option maxRecDepth 20000 in
theorem ggX3_needed_X0_goHome : GoodIn wsX3_needed wsX0_goHome := goodIn_r _ [39, 40, 4, 41, 42, 43, 44, 20, 45, 30, 46, 47, 48, 49, 29, 50, 51, 52, 53, 22, 54, 55, 56, 57, 58, 59, 60, 61, 23, 62, 63, 64, 65, 24, 66, 67, 68, 69, 70, 71, 72, 73, 74, 75, 76, 77, 78, 79, 80, 31, 81, 82, 83, 84, 85, 86, 87, 88, 98, 99, 100, 101, 102, 103] (by decide +kernel) (by decide +kernel)
set_option maxRecDepth 20000 in
theorem gX3_needed_X0_goHome : GoodIn wsX3_needed (wsV RX3 157 RX0 yX0_goHome wsX0_goHome) := goodIn_app (goodIn_of _ (by decide +kernel)) ggX3_needed_X0_goHome
theorem dX3_needed_0 : decode cX3_needed 0 = .ok (.iload_n 1, 1) := by decide +kernel
theorem dX3_needed_1 : decode cX3_needed 1 = .ok (.invokestatic 77, 3) := by decide +kernel
theorem dX3_needed_4 : decode cX3_needed 4 = .ok (.ifCond .ne 9, 3) := by decide +kernel
theorem dX3_needed_7 : decode cX3_needed 7 = .ok (.aload_n 0, 1) := by decide +kernel
theorem dX3_needed_8 : decode cX3_needed 8 = .ok (.iconst 0, 1) := by decide +kernel
theorem dX3_needed_9 : decode cX3_needed 9 = .ok (.invokevirtual 54, 3) := by decide +kernel
theorem dX3_needed_12 : decode cX3_needed 12 = .ok (.ireturn, 1) := by decide +kernel
theorem dX3_needed_13 : decode cX3_needed 13 = .ok (.iconst (-1), 1) := by decide +kernel
theorem dX3_needed_14 : decode cX3_needed 14 = .ok (.istore_n 2, 1) := by decide +kernel
theorem dX3_needed_15 : decode cX3_needed 15 = .ok (.iconst 0, 1) := by decide +kernel
theorem dX3_needed_16 : decode cX3_needed 16 = .ok (.istore_n 3, 1) := by decide +kernel
theorem dX3_needed_17 : decode cX3_needed 17 = .ok (.iconst 0, 1) := by decide +kernel
theorem dX3_needed_18 : decode cX3_needed 18 = .ok (.istore 4, 2) := by decide +kernel
theorem dX3_needed_20 : decode cX3_needed 20 = .ok (.iload 4, 2) := by decide +kernel
theorem dX3_needed_22 : decode cX3_needed 22 = .ok (.bipush 12, 2) := by decide +kernel
theorem dX3_needed_24 : decode cX3_needed 24 = .ok (.if_icmp .ge 46, 3) := by decide +kernel
theorem dX3_needed_27 : decode cX3_needed 27 = .ok (.aload_n 0, 1) := by decide +kernel
theorem dX3_needed_28 : decode cX3_needed 28 = .ok (.invokevirtual 148, 3) := by decide +kernel
theorem dX3_needed_31 : decode cX3_needed 31 = .ok (.aload_n 0, 1) := by decide +kernel
theorem dX3_needed_32 : decode cX3_needed 32 = .ok (.getfield 19, 3) := by decide +kernel
theorem dX3_needed_35 : decode cX3_needed 35 = .ok (.iload 4, 2) := by decide +kernel
theorem dX3_needed_37 : decode cX3_needed 37 = .ok (.iconst 3, 1) := by decide +kernel
theorem dX3_needed_38 : decode cX3_needed 38 = .ok (.iconst 0, 1) := by decide +kernel
theorem dX3_needed_39 : decode cX3_needed 39 = .ok (.invokevirtual 91, 3) := by decide +kernel
theorem dX3_needed_42 : decode cX3_needed 42 = .ok (.aload_n 0, 1) := by decide +kernel
theorem dX3_needed_43 : decode cX3_needed 43 = .ok (.getfield 19, 3) := by decide +kernel
theorem dX3_needed_46 : decode cX3_needed 46 = .ok (.iload_n 1, 1) := by decide +kernel
theorem dX3_needed_47 : decode cX3_needed 47 = .ok (.invokevirtual 157, 3) := by decide +kernel
theorem dX3_needed_50 : decode cX3_needed 50 = .ok (.istore 5, 2) := by decide +kernel
theorem dX3_needed_52 : decode cX3_needed 52 = .ok (.iload 5, 2) := by decide +kernel
theorem dX3_needed_54 : decode cX3_needed 54 = .ok (.iload_n 2, 1) := by decide +kernel
theorem dX3_needed_55 : decode cX3_needed 55 = .ok (.if_icmp .le 9, 3) := by decide +kernel
theorem dX3_needed_58 : decode cX3_needed 58 = .ok (.iload 5, 2) := by decide +kernel
theorem dX3_needed_60 : decode cX3_needed 60 = .ok (.istore_n 2, 1) := by decide +kernel
theorem dX3_needed_61 : decode cX3_needed 61 = .ok (.iload 4, 2) := by decide +kernel
theorem dX3_needed_63 : decode cX3_needed 63 = .ok (.istore_n 3, 1) := by decide +kernel
theorem dX3_needed_64 : decode cX3_needed 64 = .ok (.iinc 4 1, 3) := by decide +kernel
theorem dX3_needed_67 : decode cX3_needed 67 = .ok (.goto (-47), 3) := by decide +kernel
theorem dX3_needed_70 : decode cX3_needed 70 = .ok (.iload_n 3, 1) := by decide +kernel
theorem dX3_needed_71 : decode cX3_needed 71 = .ok (.ireturn, 1) := by decide +kernel
set_option maxRecDepth 20000 in
theorem ggX3_feed_X3_finding : GoodIn wsX3_feed wsX3_finding := goodIn_r _ [7, 8, 9, 17, 18, 19, 20, 21, 22, 23, 24, 25] (by decide +kernel) (by decide +kernel)
set_option maxRecDepth 20000 in
theorem gX3_feed_X3_finding : GoodIn wsX3_feed (wsV RX3 54 RX3 yX3_finding wsX3_finding) := goodIn_app (goodIn_of _ (by decide +kernel)) ggX3_feed_X3_finding
set_option maxRecDepth 20000 in
theorem ggX3_feed_X2_add : GoodIn wsX3_feed wsX2_add := goodIn_r _ [14, 15, 16, 26, 27, 28, 29, 30, 31] (by decide +kernel) (by decide +kernel)
set_option maxRecDepth 20000 in
theorem gX3_feed_X2_add : GoodIn wsX3_feed (wsV RX3 174 RX2 yX2_add wsX2_add) := goodIn_app (goodIn_of _ (by decide +kernel)) ggX3_feed_X2_add
theorem dX3_feed_0 : decode cX3_feed 0 = .ok (.iload_n 2, 1) := by decide +kernel
theorem dX3_feed_1 : decode cX3_feed 1 = .ok (.iconst 1, 1) := by decide +kernel
theorem dX3_feed_2 : decode cX3_feed 2 = .ok (.if_icmp .lt 8, 3) := by decide +kernel
theorem dX3_feed_5 : decode cX3_feed 5 = .ok (.iload_n 2, 1) := by decide +kernel
theorem dX3_feed_6 : decode cX3_feed 6 = .ok (.iconst 4, 1) := by decide +kernel
theorem dX3_feed_7 : decode cX3_feed 7 = .ok (.if_icmp .le 9, 3) := by decide +kernel
theorem dX3_feed_10 : decode cX3_feed 10 = .ok (.aload_n 0, 1) := by decide +kernel
theorem dX3_feed_11 : decode cX3_feed 11 = .ok (.iconst 0, 1) := by decide +kernel
theorem dX3_feed_12 : decode cX3_feed 12 = .ok (.invokevirtual 54, 3) := by decide +kernel
theorem dX3_feed_15 : decode cX3_feed 15 = .ok (.ireturn, 1) := by decide +kernel
theorem dX3_feed_16 : decode cX3_feed 16 = .ok (.aload_n 0, 1) := by decide +kernel
theorem dX3_feed_17 : decode cX3_feed 17 = .ok (.getfield 32, 3) := by decide +kernel
theorem dX3_feed_20 : decode cX3_feed 20 = .ok (.getfield 171, 3) := by decide +kernel
theorem dX3_feed_23 : decode cX3_feed 23 = .ok (.bipush 120, 2) := by decide +kernel
theorem dX3_feed_25 : decode cX3_feed 25 = .ok (.iload_n 2, 1) := by decide +kernel
theorem dX3_feed_26 : decode cX3_feed 26 = .ok (.isub, 1) := by decide +kernel
theorem dX3_feed_27 : decode cX3_feed 27 = .ok (.if_icmp .le 9, 3) := by decide +kernel
theorem dX3_feed_30 : decode cX3_feed 30 = .ok (.aload_n 0, 1) := by decide +kernel
theorem dX3_feed_31 : decode cX3_feed 31 = .ok (.iconst 1, 1) := by decide +kernel
theorem dX3_feed_32 : decode cX3_feed 32 = .ok (.invokevirtual 54, 3) := by decide +kernel
theorem dX3_feed_35 : decode cX3_feed 35 = .ok (.ireturn, 1) := by decide +kernel
theorem dX3_feed_36 : decode cX3_feed 36 = .ok (.iload_n 2, 1) := by decide +kernel
theorem dX3_feed_37 : decode cX3_feed 37 = .ok (.iconst 1, 1) := by decide +kernel
theorem dX3_feed_38 : decode cX3_feed 38 = .ok (.isub, 1) := by decide +kernel
theorem dX3_feed_39 : decode cX3_feed 39 = .ok (.istore_n 3, 1) := by decide +kernel
theorem dX3_feed_40 : decode cX3_feed 40 = .ok (.iload_n 3, 1) := by decide +kernel
theorem dX3_feed_41 : decode cX3_feed 41 = .ok (.ifCond .lt 23, 3) := by decide +kernel
theorem dX3_feed_44 : decode cX3_feed 44 = .ok (.aload_n 0, 1) := by decide +kernel
theorem dX3_feed_45 : decode cX3_feed 45 = .ok (.getfield 32, 3) := by decide +kernel
theorem dX3_feed_48 : decode cX3_feed 48 = .ok (.iload_n 1, 1) := by decide +kernel
theorem dX3_feed_49 : decode cX3_feed 49 = .ok (.bipush 8, 2) := by decide +kernel
theorem dX3_feed_51 : decode cX3_feed 51 = .ok (.iload_n 3, 1) := by decide +kernel
theorem dX3_feed_52 : decode cX3_feed 52 = .ok (.imul, 1) := by decide +kernel
theorem dX3_feed_53 : decode cX3_feed 53 = .ok (.ishr, 1) := by decide +kernel
theorem dX3_feed_54 : decode cX3_feed 54 = .ok (.i2b, 1) := by decide +kernel
theorem dX3_feed_55 : decode cX3_feed 55 = .ok (.invokevirtual 174, 3) := by decide +kernel
theorem dX3_feed_58 : decode cX3_feed 58 = .ok (.iinc 3 (-1), 3) := by decide +kernel
theorem dX3_feed_61 : decode cX3_feed 61 = .ok (.goto (-21), 3) := by decide +kernel
theorem dX3_feed_64 : decode cX3_feed 64 = .ok (.aload_n 0, 1) := by decide +kernel
theorem dX3_feed_65 : decode cX3_feed 65 = .ok (.getfield 32, 3) := by decide +kernel
theorem dX3_feed_68 : decode cX3_feed 68 = .ok (.getfield 171, 3) := by decide +kernel
theorem dX3_feed_71 : decode cX3_feed 71 = .ok (.ireturn, 1) := by decide +kernel
theorem dX3_wipe_0 : decode cX3_wipe 0 = .ok (.aload_n 0, 1) := by decide +kernel
theorem dX3_wipe_1 : decode cX3_wipe 1 = .ok (.getfield 32, 3) := by decide +kernel
theorem dX3_wipe_4 : decode cX3_wipe 4 = .ok (.getfield 171, 3) := by decide +kernel
theorem dX3_wipe_7 : decode cX3_wipe 7 = .ok (.istore_n 1, 1) := by decide +kernel
theorem dX3_wipe_8 : decode cX3_wipe 8 = .ok (.aload_n 0, 1) := by decide +kernel
theorem dX3_wipe_9 : decode cX3_wipe 9 = .ok (.getfield 32, 3) := by decide +kernel
theorem dX3_wipe_12 : decode cX3_wipe 12 = .ok (.iconst 0, 1) := by decide +kernel
theorem dX3_wipe_13 : decode cX3_wipe 13 = .ok (.putfield 171, 3) := by decide +kernel
theorem dX3_wipe_16 : decode cX3_wipe 16 = .ok (.iload_n 1, 1) := by decide +kernel
theorem dX3_wipe_17 : decode cX3_wipe 17 = .ok (.ireturn, 1) := by decide +kernel
set_option maxRecDepth 20000 in
theorem ggX3_avenue_X3_suppose : GoodIn wsX3_avenue wsX3_suppose := goodIn_r _ [9, 2, 3, 10, 11, 12, 13, 14, 15, 16, 17, 18, 19, 20, 21, 22, 23, 24, 144, 145, 146, 147, 148, 149, 150, 151, 152, 159, 160, 161, 162, 163, 164] (by decide +kernel) (by decide +kernel)
set_option maxRecDepth 20000 in
theorem gX3_avenue_X3_suppose : GoodIn wsX3_avenue (wsV RX3 148 RX3 yX3_suppose wsX3_suppose) := goodIn_app (goodIn_of _ (by decide +kernel)) ggX3_avenue_X3_suppose
set_option maxRecDepth 20000 in
theorem ggX3_avenue_X2_layOut : GoodIn wsX3_avenue wsX2_layOut := goodIn_r _ [29, 30, 31, 32, 33, 34, 35, 28, 36, 37, 38, 39, 40, 41, 42, 43, 44, 45, 46, 47, 48, 49, 50, 51, 52, 53, 54, 55, 56, 57, 58, 59, 60, 61, 62, 63, 64, 65, 66, 67, 68, 69, 70, 71, 72, 73, 74, 75, 76, 77, 78, 79, 80, 81, 82, 83, 84, 85, 86, 87, 88, 89, 90, 91, 92, 93, 94, 95, 96, 97, 98, 99, 100, 101, 102, 103, 104, 105, 106, 107, 108, 109, 110, 111, 112, 113, 114, 115, 116, 117, 118, 8, 119, 120, 121, 122, 13, 123, 17, 22, 23, 124, 125, 126, 127, 128, 129, 130, 131, 16, 132, 133, 134, 135, 136, 137, 138, 139, 140, 141, 142, 143, 24, 15, 153, 154, 155, 156, 157, 158, 159, 160, 161, 162, 163, 164] (by decide +kernel) (by decide +kernel)
set_option maxRecDepth 20000 in
theorem gX3_avenue_X2_layOut : GoodIn wsX3_avenue (wsV RX3 178 RX2 yX2_layOut wsX2_layOut) := goodIn_app (goodIn_of _ (by decide +kernel)) ggX3_avenue_X2_layOut
set_option maxRecDepth 20000 in
theorem ggX3_avenue_X0_become : GoodIn wsX3_avenue wsX0_become := goodIn_r _ [14, 15, 16, 17, 18, 19, 20, 21, 22, 23, 24, 159, 160, 161, 162, 163, 164] (by decide +kernel) (by decide +kernel)
set_option maxRecDepth 20000 in
theorem gX3_avenue_X0_become : GoodIn wsX3_avenue (wsV RX3 164 RX0 yX0_become wsX0_become) := goodIn_app (goodIn_of _ (by decide +kernel)) ggX3_avenue_X0_become
theorem dX3_avenue_0 : decode cX3_avenue 0 = .ok (.aload_n 0, 1) := by decide +kernel
theorem dX3_avenue_1 : decode cX3_avenue 1 = .ok (.invokevirtual 148, 3) := by decide +kernel
theorem dX3_avenue_4 : decode cX3_avenue 4 = .ok (.aload_n 0, 1) := by decide +kernel
theorem dX3_avenue_5 : decode cX3_avenue 5 = .ok (.getfield 32, 3) := by decide +kernel
theorem dX3_avenue_8 : decode cX3_avenue 8 = .ok (.aload_n 0, 1) := by decide +kernel
theorem dX3_avenue_9 : decode cX3_avenue 9 = .ok (.getfield 19, 3) := by decide +kernel
theorem dX3_avenue_12 : decode cX3_avenue 12 = .ok (.invokevirtual 178, 3) := by decide +kernel
theorem dX3_avenue_15 : decode cX3_avenue 15 = .ok (.istore_n 1, 1) := by decide +kernel
theorem dX3_avenue_16 : decode cX3_avenue 16 = .ok (.iload_n 1, 1) := by decide +kernel
theorem dX3_avenue_17 : decode cX3_avenue 17 = .ok (.ifCond .lt 14, 3) := by decide +kernel
theorem dX3_avenue_20 : decode cX3_avenue 20 = .ok (.aload_n 0, 1) := by decide +kernel
theorem dX3_avenue_21 : decode cX3_avenue 21 = .ok (.getfield 12, 3) := by decide +kernel
theorem dX3_avenue_24 : decode cX3_avenue 24 = .ok (.aload_n 0, 1) := by decide +kernel
theorem dX3_avenue_25 : decode cX3_avenue 25 = .ok (.getfield 19, 3) := by decide +kernel
theorem dX3_avenue_28 : decode cX3_avenue 28 = .ok (.invokevirtual 164, 3) := by decide +kernel
theorem dX3_avenue_31 : decode cX3_avenue 31 = .ok (.aload_n 0, 1) := by decide +kernel
theorem dX3_avenue_32 : decode cX3_avenue 32 = .ok (.getfield 32, 3) := by decide +kernel
theorem dX3_avenue_35 : decode cX3_avenue 35 = .ok (.iconst 0, 1) := by decide +kernel
theorem dX3_avenue_36 : decode cX3_avenue 36 = .ok (.putfield 171, 3) := by decide +kernel
theorem dX3_avenue_39 : decode cX3_avenue 39 = .ok (.iload_n 1, 1) := by decide +kernel
theorem dX3_avenue_40 : decode cX3_avenue 40 = .ok (.ireturn, 1) := by decide +kernel
set_option maxRecDepth 20000 in
theorem ggX3_sheet_X3_isSheet : GoodIn wsX3_sheet wsX3_isSheet := goodIn_r _ [6] (by decide +kernel) (by decide +kernel)
set_option maxRecDepth 20000 in
theorem gX3_sheet_X3_isSheet : GoodIn wsX3_sheet (va_wsS RX3 182 yX3_isSheet wsX3_isSheet) := goodIn_app (goodIn_of _ (by decide +kernel)) ggX3_sheet_X3_isSheet
set_option maxRecDepth 20000 in
theorem ggX3_sheet_X3_isWidth : GoodIn wsX3_sheet wsX3_isWidth := goodIn_r _ [9] (by decide +kernel) (by decide +kernel)
set_option maxRecDepth 20000 in
theorem gX3_sheet_X3_isWidth : GoodIn wsX3_sheet (va_wsS RX3 185 yX3_isWidth wsX3_isWidth) := goodIn_app (goodIn_of _ (by decide +kernel)) ggX3_sheet_X3_isWidth
set_option maxRecDepth 20000 in
theorem ggX3_sheet_X3_finding : GoodIn wsX3_sheet wsX3_finding := goodIn_r _ [13, 14, 15, 28, 29, 30, 31, 32, 33, 34, 35, 36] (by decide +kernel) (by decide +kernel)
set_option maxRecDepth 20000 in
theorem gX3_sheet_X3_finding : GoodIn wsX3_sheet (wsV RX3 54 RX3 yX3_finding wsX3_finding) := goodIn_app (goodIn_of _ (by decide +kernel)) ggX3_sheet_X3_finding
set_option maxRecDepth 20000 in
theorem ggX3_sheet_X1_layNew : GoodIn wsX3_sheet wsX1_layNew := goodIn_r _ [20, 21, 22, 23, 24, 25, 26, 27, 37, 38, 39] (by decide +kernel) (by decide +kernel)
set_option maxRecDepth 20000 in
theorem gX3_sheet_X1_layNew : GoodIn wsX3_sheet (wsV RX3 188 RX1 yX1_layNew wsX1_layNew) := goodIn_app (goodIn_of _ (by decide +kernel)) ggX3_sheet_X1_layNew
theorem dX3_sheet_0 : decode cX3_sheet 0 = .ok (.iload_n 1, 1) := by decide +kernel
theorem dX3_sheet_1 : decode cX3_sheet 1 = .ok (.invokestatic 182, 3) := by decide +kernel
theorem dX3_sheet_4 : decode cX3_sheet 4 = .ok (.ifCond .eq 10, 3) := by decide +kernel
theorem dX3_sheet_7 : decode cX3_sheet 7 = .ok (.iload_n 2, 1) := by decide +kernel
theorem dX3_sheet_8 : decode cX3_sheet 8 = .ok (.invokestatic 185, 3) := by decide +kernel
theorem dX3_sheet_11 : decode cX3_sheet 11 = .ok (.ifCond .ne 9, 3) := by decide +kernel
theorem dX3_sheet_14 : decode cX3_sheet 14 = .ok (.aload_n 0, 1) := by decide +kernel
theorem dX3_sheet_15 : decode cX3_sheet 15 = .ok (.iconst 0, 1) := by decide +kernel
theorem dX3_sheet_16 : decode cX3_sheet 16 = .ok (.invokevirtual 54, 3) := by decide +kernel
theorem dX3_sheet_19 : decode cX3_sheet 19 = .ok (.ireturn, 1) := by decide +kernel
theorem dX3_sheet_20 : decode cX3_sheet 20 = .ok (.iload_n 3, 1) := by decide +kernel
theorem dX3_sheet_21 : decode cX3_sheet 21 = .ok (.ifCond .ge 10, 3) := by decide +kernel
theorem dX3_sheet_24 : decode cX3_sheet 24 = .ok (.aload_n 0, 1) := by decide +kernel
theorem dX3_sheet_25 : decode cX3_sheet 25 = .ok (.bipush 6, 2) := by decide +kernel
theorem dX3_sheet_27 : decode cX3_sheet 27 = .ok (.invokevirtual 54, 3) := by decide +kernel
theorem dX3_sheet_30 : decode cX3_sheet 30 = .ok (.ireturn, 1) := by decide +kernel
theorem dX3_sheet_31 : decode cX3_sheet 31 = .ok (.iload_n 3, 1) := by decide +kernel
theorem dX3_sheet_32 : decode cX3_sheet 32 = .ok (.bipush 40, 2) := by decide +kernel
theorem dX3_sheet_34 : decode cX3_sheet 34 = .ok (.if_icmp .le 9, 3) := by decide +kernel
theorem dX3_sheet_37 : decode cX3_sheet 37 = .ok (.aload_n 0, 1) := by decide +kernel
theorem dX3_sheet_38 : decode cX3_sheet 38 = .ok (.iconst 0, 1) := by decide +kernel
theorem dX3_sheet_39 : decode cX3_sheet 39 = .ok (.invokevirtual 54, 3) := by decide +kernel
theorem dX3_sheet_42 : decode cX3_sheet 42 = .ok (.ireturn, 1) := by decide +kernel
theorem dX3_sheet_43 : decode cX3_sheet 43 = .ok (.aload_n 0, 1) := by decide +kernel
theorem dX3_sheet_44 : decode cX3_sheet 44 = .ok (.getfield 38, 3) := by decide +kernel
theorem dX3_sheet_47 : decode cX3_sheet 47 = .ok (.iload_n 1, 1) := by decide +kernel
theorem dX3_sheet_48 : decode cX3_sheet 48 = .ok (.aaload, 1) := by decide +kernel
theorem dX3_sheet_49 : decode cX3_sheet 49 = .ok (.iload_n 2, 1) := by decide +kernel
theorem dX3_sheet_50 : decode cX3_sheet 50 = .ok (.iload_n 3, 1) := by decide +kernel
theorem dX3_sheet_51 : decode cX3_sheet 51 = .ok (.invokevirtual 188, 3) := by decide +kernel
theorem dX3_sheet_54 : decode cX3_sheet 54 = .ok (.aload_n 0, 1) := by decide +kernel
theorem dX3_sheet_55 : decode cX3_sheet 55 = .ok (.getfield 38, 3) := by decide +kernel
theorem dX3_sheet_58 : decode cX3_sheet 58 = .ok (.iload_n 1, 1) := by decide +kernel
theorem dX3_sheet_59 : decode cX3_sheet 59 = .ok (.aaload, 1) := by decide +kernel
theorem dX3_sheet_60 : decode cX3_sheet 60 = .ok (.getfield 191, 3) := by decide +kernel
theorem dX3_sheet_63 : decode cX3_sheet 63 = .ok (.ireturn, 1) := by decide +kernel
set_option maxRecDepth 20000 in
theorem ggX3_write_X3_isSheet : GoodIn wsX3_write wsX3_isSheet := goodIn_r _ [7] (by decide +kernel) (by decide +kernel)
set_option maxRecDepth 20000 in
theorem gX3_write_X3_isSheet : GoodIn wsX3_write (va_wsS RX3 182 yX3_isSheet wsX3_isSheet) := goodIn_app (goodIn_of _ (by decide +kernel)) ggX3_write_X3_isSheet
set_option maxRecDepth 20000 in
theorem ggX3_write_X3_finding : GoodIn wsX3_write wsX3_finding := goodIn_r _ [11, 12, 13, 25, 26, 27, 28, 29, 30, 31, 32, 33] (by decide +kernel) (by decide +kernel)
set_option maxRecDepth 20000 in
theorem gX3_write_X3_finding : GoodIn wsX3_write (wsV RX3 54 RX3 yX3_finding wsX3_finding) := goodIn_app (goodIn_of _ (by decide +kernel)) ggX3_write_X3_finding
set_option maxRecDepth 20000 in
theorem ggX3_write_X1_isMissing : GoodIn wsX3_write wsX1_isMissing := goodIn_r _ [18, 19, 34, 35, 36] (by decide +kernel) (by decide +kernel)
set_option maxRecDepth 20000 in
theorem gX3_write_X1_isMissing : GoodIn wsX3_write (wsV RX3 194 RX1 yX1_isMissing wsX1_isMissing) := goodIn_app (goodIn_of _ (by decide +kernel)) ggX3_write_X1_isMissing
set_option maxRecDepth 20000 in
theorem ggX3_write_X1_put : GoodIn wsX3_write wsX1_put := goodIn_r _ [23, 19, 24, 34, 35, 36] (by decide +kernel) (by decide +kernel)
set_option maxRecDepth 20000 in
theorem gX3_write_X1_put : GoodIn wsX3_write (wsV RX3 202 RX1 yX1_put wsX1_put) := goodIn_app (goodIn_of _ (by decide +kernel)) ggX3_write_X1_put
theorem dX3_write_0 : decode cX3_write 0 = .ok (.iload_n 1, 1) := by decide +kernel
theorem dX3_write_1 : decode cX3_write 1 = .ok (.invokestatic 182, 3) := by decide +kernel
theorem dX3_write_4 : decode cX3_write 4 = .ok (.ifCond .ne 10, 3) := by decide +kernel
theorem dX3_write_7 : decode cX3_write 7 = .ok (.aload_n 0, 1) := by decide +kernel
theorem dX3_write_8 : decode cX3_write 8 = .ok (.iconst 0, 1) := by decide +kernel
theorem dX3_write_9 : decode cX3_write 9 = .ok (.invokevirtual 54, 3) := by decide +kernel
theorem dX3_write_12 : decode cX3_write 12 = .ok (.i2l, 1) := by decide +kernel
theorem dX3_write_13 : decode cX3_write 13 = .ok (.lreturn, 1) := by decide +kernel
theorem dX3_write_14 : decode cX3_write 14 = .ok (.aload_n 0, 1) := by decide +kernel
theorem dX3_write_15 : decode cX3_write 15 = .ok (.getfield 38, 3) := by decide +kernel
theorem dX3_write_18 : decode cX3_write 18 = .ok (.iload_n 1, 1) := by decide +kernel
theorem dX3_write_19 : decode cX3_write 19 = .ok (.aaload, 1) := by decide +kernel
theorem dX3_write_20 : decode cX3_write 20 = .ok (.invokevirtual 194, 3) := by decide +kernel
theorem dX3_write_23 : decode cX3_write 23 = .ok (.ifCond .eq 10, 3) := by decide +kernel
theorem dX3_write_26 : decode cX3_write 26 = .ok (.aload_n 0, 1) := by decide +kernel
theorem dX3_write_27 : decode cX3_write 27 = .ok (.iconst 5, 1) := by decide +kernel
theorem dX3_write_28 : decode cX3_write 28 = .ok (.invokevirtual 54, 3) := by decide +kernel
theorem dX3_write_31 : decode cX3_write 31 = .ok (.i2l, 1) := by decide +kernel
theorem dX3_write_32 : decode cX3_write 32 = .ok (.lreturn, 1) := by decide +kernel
theorem dX3_write_33 : decode cX3_write 33 = .ok (.iload_n 2, 1) := by decide +kernel
theorem dX3_write_34 : decode cX3_write 34 = .ok (.ifCond .lt 16, 3) := by decide +kernel
theorem dX3_write_37 : decode cX3_write 37 = .ok (.iload_n 2, 1) := by decide +kernel
theorem dX3_write_38 : decode cX3_write 38 = .ok (.aload_n 0, 1) := by decide +kernel
theorem dX3_write_39 : decode cX3_write 39 = .ok (.getfield 38, 3) := by decide +kernel
theorem dX3_write_42 : decode cX3_write 42 = .ok (.iload_n 1, 1) := by decide +kernel
theorem dX3_write_43 : decode cX3_write 43 = .ok (.aaload, 1) := by decide +kernel
theorem dX3_write_44 : decode cX3_write 44 = .ok (.getfield 191, 3) := by decide +kernel
theorem dX3_write_47 : decode cX3_write 47 = .ok (.if_icmp .lt 10, 3) := by decide +kernel
theorem dX3_write_50 : decode cX3_write 50 = .ok (.aload_n 0, 1) := by decide +kernel
theorem dX3_write_51 : decode cX3_write 51 = .ok (.iconst 0, 1) := by decide +kernel
theorem dX3_write_52 : decode cX3_write 52 = .ok (.invokevirtual 54, 3) := by decide +kernel
theorem dX3_write_55 : decode cX3_write 55 = .ok (.i2l, 1) := by decide +kernel
theorem dX3_write_56 : decode cX3_write 56 = .ok (.lreturn, 1) := by decide +kernel
theorem dX3_write_57 : decode cX3_write 57 = .ok (.aload_n 0, 1) := by decide +kernel
theorem dX3_write_58 : decode cX3_write 58 = .ok (.getfield 38, 3) := by decide +kernel
theorem dX3_write_61 : decode cX3_write 61 = .ok (.iload_n 1, 1) := by decide +kernel
theorem dX3_write_62 : decode cX3_write 62 = .ok (.aaload, 1) := by decide +kernel
theorem dX3_write_63 : decode cX3_write 63 = .ok (.getfield 198, 3) := by decide +kernel
theorem dX3_write_66 : decode cX3_write 66 = .ok (.iload_n 2, 1) := by decide +kernel
theorem dX3_write_67 : decode cX3_write 67 = .ok (.laload, 1) := by decide +kernel
theorem dX3_write_68 : decode cX3_write 68 = .ok (.lstore 5, 2) := by decide +kernel
theorem dX3_write_70 : decode cX3_write 70 = .ok (.aload_n 0, 1) := by decide +kernel
theorem dX3_write_71 : decode cX3_write 71 = .ok (.getfield 38, 3) := by decide +kernel
theorem dX3_write_74 : decode cX3_write 74 = .ok (.iload_n 1, 1) := by decide +kernel
theorem dX3_write_75 : decode cX3_write 75 = .ok (.aaload, 1) := by decide +kernel
theorem dX3_write_76 : decode cX3_write 76 = .ok (.iload_n 2, 1) := by decide +kernel
theorem dX3_write_77 : decode cX3_write 77 = .ok (.lload_n 3, 1) := by decide +kernel
theorem dX3_write_78 : decode cX3_write 78 = .ok (.invokevirtual 202, 3) := by decide +kernel
theorem dX3_write_81 : decode cX3_write 81 = .ok (.lload 5, 2) := by decide +kernel
theorem dX3_write_83 : decode cX3_write 83 = .ok (.lreturn, 1) := by decide +kernel
set_option maxRecDepth 20000 in
theorem ggX3_copy_X3_isSheet : GoodIn wsX3_copy wsX3_isSheet := goodIn_r _ [11] (by decide +kernel) (by decide +kernel)
set_option maxRecDepth 20000 in
theorem gX3_copy_X3_isSheet : GoodIn wsX3_copy (va_wsS RX3 182 yX3_isSheet wsX3_isSheet) := goodIn_app (goodIn_of _ (by decide +kernel)) ggX3_copy_X3_isSheet
set_option maxRecDepth 20000 in
theorem ggX3_copy_X3_finding : GoodIn wsX3_copy wsX3_finding := goodIn_r _ [15, 16, 17, 29, 30, 31, 32, 33, 34, 35, 36, 37] (by decide +kernel) (by decide +kernel)
set_option maxRecDepth 20000 in
theorem gX3_copy_X3_finding : GoodIn wsX3_copy (wsV RX3 54 RX3 yX3_finding wsX3_finding) := goodIn_app (goodIn_of _ (by decide +kernel)) ggX3_copy_X3_finding
set_option maxRecDepth 20000 in
theorem ggX3_copy_X1_isMissing : GoodIn wsX3_copy wsX1_isMissing := goodIn_r _ [22, 23, 38, 39, 40] (by decide +kernel) (by decide +kernel)
set_option maxRecDepth 20000 in
theorem gX3_copy_X1_isMissing : GoodIn wsX3_copy (wsV RX3 194 RX1 yX1_isMissing wsX1_isMissing) := goodIn_app (goodIn_of _ (by decide +kernel)) ggX3_copy_X1_isMissing
set_option maxRecDepth 20000 in
theorem ggX3_copy_X1_has : GoodIn wsX3_copy wsX1_has := goodIn_r _ [27, 28, 38, 39, 40] (by decide +kernel) (by decide +kernel)
set_option maxRecDepth 20000 in
theorem gX3_copy_X1_has : GoodIn wsX3_copy (wsV RX3 209 RX1 yX1_has wsX1_has) := goodIn_app (goodIn_of _ (by decide +kernel)) ggX3_copy_X1_has
theorem dX3_copy_0 : decode cX3_copy 0 = .ok (.iload_n 1, 1) := by decide +kernel
theorem dX3_copy_1 : decode cX3_copy 1 = .ok (.invokestatic 182, 3) := by decide +kernel
theorem dX3_copy_4 : decode cX3_copy 4 = .ok (.ifCond .eq 10, 3) := by decide +kernel
theorem dX3_copy_7 : decode cX3_copy 7 = .ok (.iload_n 3, 1) := by decide +kernel
theorem dX3_copy_8 : decode cX3_copy 8 = .ok (.invokestatic 182, 3) := by decide +kernel
theorem dX3_copy_11 : decode cX3_copy 11 = .ok (.ifCond .ne 9, 3) := by decide +kernel
theorem dX3_copy_14 : decode cX3_copy 14 = .ok (.aload_n 0, 1) := by decide +kernel
theorem dX3_copy_15 : decode cX3_copy 15 = .ok (.iconst 0, 1) := by decide +kernel
theorem dX3_copy_16 : decode cX3_copy 16 = .ok (.invokevirtual 54, 3) := by decide +kernel
theorem dX3_copy_19 : decode cX3_copy 19 = .ok (.ireturn, 1) := by decide +kernel
theorem dX3_copy_20 : decode cX3_copy 20 = .ok (.aload_n 0, 1) := by decide +kernel
theorem dX3_copy_21 : decode cX3_copy 21 = .ok (.getfield 38, 3) := by decide +kernel
theorem dX3_copy_24 : decode cX3_copy 24 = .ok (.iload_n 1, 1) := by decide +kernel
theorem dX3_copy_25 : decode cX3_copy 25 = .ok (.aaload, 1) := by decide +kernel
theorem dX3_copy_26 : decode cX3_copy 26 = .ok (.astore 6, 2) := by decide +kernel
theorem dX3_copy_28 : decode cX3_copy 28 = .ok (.aload_n 0, 1) := by decide +kernel
theorem dX3_copy_29 : decode cX3_copy 29 = .ok (.getfield 38, 3) := by decide +kernel
theorem dX3_copy_32 : decode cX3_copy 32 = .ok (.iload_n 3, 1) := by decide +kernel
theorem dX3_copy_33 : decode cX3_copy 33 = .ok (.aaload, 1) := by decide +kernel
theorem dX3_copy_34 : decode cX3_copy 34 = .ok (.astore 7, 2) := by decide +kernel
theorem dX3_copy_36 : decode cX3_copy 36 = .ok (.aload 6, 2) := by decide +kernel
theorem dX3_copy_38 : decode cX3_copy 38 = .ok (.invokevirtual 194, 3) := by decide +kernel
theorem dX3_copy_41 : decode cX3_copy 41 = .ok (.ifCond .ne 11, 3) := by decide +kernel
theorem dX3_copy_44 : decode cX3_copy 44 = .ok (.aload 7, 2) := by decide +kernel
theorem dX3_copy_46 : decode cX3_copy 46 = .ok (.invokevirtual 194, 3) := by decide +kernel
theorem dX3_copy_49 : decode cX3_copy 49 = .ok (.ifCond .eq 9, 3) := by decide +kernel
theorem dX3_copy_52 : decode cX3_copy 52 = .ok (.aload_n 0, 1) := by decide +kernel
theorem dX3_copy_53 : decode cX3_copy 53 = .ok (.iconst 5, 1) := by decide +kernel
theorem dX3_copy_54 : decode cX3_copy 54 = .ok (.invokevirtual 54, 3) := by decide +kernel
theorem dX3_copy_57 : decode cX3_copy 57 = .ok (.ireturn, 1) := by decide +kernel
theorem dX3_copy_58 : decode cX3_copy 58 = .ok (.aload 6, 2) := by decide +kernel
theorem dX3_copy_60 : decode cX3_copy 60 = .ok (.getfield 206, 3) := by decide +kernel
theorem dX3_copy_63 : decode cX3_copy 63 = .ok (.aload 7, 2) := by decide +kernel
theorem dX3_copy_65 : decode cX3_copy 65 = .ok (.getfield 206, 3) := by decide +kernel
theorem dX3_copy_68 : decode cX3_copy 68 = .ok (.if_icmp .eq 9, 3) := by decide +kernel
theorem dX3_copy_71 : decode cX3_copy 71 = .ok (.aload_n 0, 1) := by decide +kernel
theorem dX3_copy_72 : decode cX3_copy 72 = .ok (.iconst 2, 1) := by decide +kernel
theorem dX3_copy_73 : decode cX3_copy 73 = .ok (.invokevirtual 54, 3) := by decide +kernel
theorem dX3_copy_76 : decode cX3_copy 76 = .ok (.ireturn, 1) := by decide +kernel
theorem dX3_copy_77 : decode cX3_copy 77 = .ok (.aload 6, 2) := by decide +kernel
theorem dX3_copy_79 : decode cX3_copy 79 = .ok (.iload_n 2, 1) := by decide +kernel
theorem dX3_copy_80 : decode cX3_copy 80 = .ok (.iload 5, 2) := by decide +kernel
theorem dX3_copy_82 : decode cX3_copy 82 = .ok (.invokevirtual 209, 3) := by decide +kernel
theorem dX3_copy_85 : decode cX3_copy 85 = .ok (.ifCond .eq 15, 3) := by decide +kernel
theorem dX3_copy_88 : decode cX3_copy 88 = .ok (.aload 7, 2) := by decide +kernel
theorem dX3_copy_90 : decode cX3_copy 90 = .ok (.iload 4, 2) := by decide +kernel
theorem dX3_copy_92 : decode cX3_copy 92 = .ok (.iload 5, 2) := by decide +kernel
theorem dX3_copy_94 : decode cX3_copy 94 = .ok (.invokevirtual 209, 3) := by decide +kernel
theorem dX3_copy_97 : decode cX3_copy 97 = .ok (.ifCond .ne 9, 3) := by decide +kernel
theorem dX3_copy_100 : decode cX3_copy 100 = .ok (.aload_n 0, 1) := by decide +kernel
theorem dX3_copy_101 : decode cX3_copy 101 = .ok (.iconst 0, 1) := by decide +kernel
theorem dX3_copy_102 : decode cX3_copy 102 = .ok (.invokevirtual 54, 3) := by decide +kernel
theorem dX3_copy_105 : decode cX3_copy 105 = .ok (.ireturn, 1) := by decide +kernel
theorem dX3_copy_106 : decode cX3_copy 106 = .ok (.aload 6, 2) := by decide +kernel
theorem dX3_copy_108 : decode cX3_copy 108 = .ok (.getfield 198, 3) := by decide +kernel
theorem dX3_copy_111 : decode cX3_copy 111 = .ok (.iload_n 2, 1) := by decide +kernel
theorem dX3_copy_112 : decode cX3_copy 112 = .ok (.aload 7, 2) := by decide +kernel
theorem dX3_copy_114 : decode cX3_copy 114 = .ok (.getfield 198, 3) := by decide +kernel
theorem dX3_copy_117 : decode cX3_copy 117 = .ok (.iload 4, 2) := by decide +kernel
theorem dX3_copy_119 : decode cX3_copy 119 = .ok (.iload 5, 2) := by decide +kernel
theorem dX3_copy_121 : decode cX3_copy 121 = .ok (.invokestatic 212, 3) := by decide +kernel
theorem dX3_copy_124 : decode cX3_copy 124 = .ok (.iload 5, 2) := by decide +kernel
theorem dX3_copy_126 : decode cX3_copy 126 = .ok (.ireturn, 1) := by decide +kernel
set_option maxRecDepth 20000 in
theorem ggX3_lays_X3_isSheet : GoodIn wsX3_lays wsX3_isSheet := goodIn_r _ [10] (by decide +kernel) (by decide +kernel)
set_option maxRecDepth 20000 in
theorem gX3_lays_X3_isSheet : GoodIn wsX3_lays (va_wsS RX3 182 yX3_isSheet wsX3_isSheet) := goodIn_app (goodIn_of _ (by decide +kernel)) ggX3_lays_X3_isSheet
set_option maxRecDepth 20000 in
theorem ggX3_lays_X3_finding : GoodIn wsX3_lays wsX3_finding := goodIn_r _ [14, 15, 16, 23, 24, 25, 26, 27, 28, 29, 30, 31] (by decide +kernel) (by decide +kernel)
set_option maxRecDepth 20000 in
theorem gX3_lays_X3_finding : GoodIn wsX3_lays (wsV RX3 54 RX3 yX3_finding wsX3_finding) := goodIn_app (goodIn_of _ (by decide +kernel)) ggX3_lays_X3_finding
set_option maxRecDepth 20000 in
theorem ggX3_lays_X1_isMissing : GoodIn wsX3_lays wsX1_isMissing := goodIn_r _ [21, 22, 32, 33, 34] (by decide +kernel) (by decide +kernel)
set_option maxRecDepth 20000 in
theorem gX3_lays_X1_isMissing : GoodIn wsX3_lays (wsV RX3 194 RX1 yX1_isMissing wsX1_isMissing) := goodIn_app (goodIn_of _ (by decide +kernel)) ggX3_lays_X1_isMissing
theorem dX3_lays_0 : decode cX3_lays 0 = .ok (.iload_n 1, 1) := by decide +kernel
theorem dX3_lays_1 : decode cX3_lays 1 = .ok (.invokestatic 182, 3) := by decide +kernel
theorem dX3_lays_4 : decode cX3_lays 4 = .ok (.ifCond .ne 9, 3) := by decide +kernel
theorem dX3_lays_7 : decode cX3_lays 7 = .ok (.aload_n 0, 1) := by decide +kernel
theorem dX3_lays_8 : decode cX3_lays 8 = .ok (.iconst 0, 1) := by decide +kernel
theorem dX3_lays_9 : decode cX3_lays 9 = .ok (.invokevirtual 54, 3) := by decide +kernel
theorem dX3_lays_12 : decode cX3_lays 12 = .ok (.ireturn, 1) := by decide +kernel
theorem dX3_lays_13 : decode cX3_lays 13 = .ok (.aload_n 0, 1) := by decide +kernel
theorem dX3_lays_14 : decode cX3_lays 14 = .ok (.getfield 38, 3) := by decide +kernel
theorem dX3_lays_17 : decode cX3_lays 17 = .ok (.iload_n 1, 1) := by decide +kernel
theorem dX3_lays_18 : decode cX3_lays 18 = .ok (.aaload, 1) := by decide +kernel
theorem dX3_lays_19 : decode cX3_lays 19 = .ok (.invokevirtual 194, 3) := by decide +kernel
theorem dX3_lays_22 : decode cX3_lays 22 = .ok (.ifCond .eq 9, 3) := by decide +kernel
theorem dX3_lays_25 : decode cX3_lays 25 = .ok (.aload_n 0, 1) := by decide +kernel
theorem dX3_lays_26 : decode cX3_lays 26 = .ok (.iconst 5, 1) := by decide +kernel
theorem dX3_lays_27 : decode cX3_lays 27 = .ok (.invokevirtual 54, 3) := by decide +kernel
theorem dX3_lays_30 : decode cX3_lays 30 = .ok (.ireturn, 1) := by decide +kernel
theorem dX3_lays_31 : decode cX3_lays 31 = .ok (.iconst 0, 1) := by decide +kernel
theorem dX3_lays_32 : decode cX3_lays 32 = .ok (.istore_n 2, 1) := by decide +kernel
theorem dX3_lays_33 : decode cX3_lays 33 = .ok (.iconst 0, 1) := by decide +kernel
theorem dX3_lays_34 : decode cX3_lays 34 = .ok (.istore_n 3, 1) := by decide +kernel
theorem dX3_lays_35 : decode cX3_lays 35 = .ok (.iload_n 3, 1) := by decide +kernel
theorem dX3_lays_36 : decode cX3_lays 36 = .ok (.bipush 12, 2) := by decide +kernel
theorem dX3_lays_38 : decode cX3_lays 38 = .ok (.if_icmp .ge 66, 3) := by decide +kernel
theorem dX3_lays_41 : decode cX3_lays 41 = .ok (.iload_n 3, 1) := by decide +kernel
theorem dX3_lays_42 : decode cX3_lays 42 = .ok (.aload_n 0, 1) := by decide +kernel
theorem dX3_lays_43 : decode cX3_lays 43 = .ok (.getfield 38, 3) := by decide +kernel
theorem dX3_lays_46 : decode cX3_lays 46 = .ok (.iload_n 1, 1) := by decide +kernel
theorem dX3_lays_47 : decode cX3_lays 47 = .ok (.aaload, 1) := by decide +kernel
theorem dX3_lays_48 : decode cX3_lays 48 = .ok (.getfield 191, 3) := by decide +kernel
theorem dX3_lays_51 : decode cX3_lays 51 = .ok (.if_icmp .ge 53, 3) := by decide +kernel
theorem dX3_lays_54 : decode cX3_lays 54 = .ok (.aload_n 0, 1) := by decide +kernel
theorem dX3_lays_55 : decode cX3_lays 55 = .ok (.getfield 38, 3) := by decide +kernel
theorem dX3_lays_58 : decode cX3_lays 58 = .ok (.iload_n 1, 1) := by decide +kernel
theorem dX3_lays_59 : decode cX3_lays 59 = .ok (.aaload, 1) := by decide +kernel
theorem dX3_lays_60 : decode cX3_lays 60 = .ok (.getfield 198, 3) := by decide +kernel
theorem dX3_lays_63 : decode cX3_lays 63 = .ok (.iload_n 3, 1) := by decide +kernel
theorem dX3_lays_64 : decode cX3_lays 64 = .ok (.laload, 1) := by decide +kernel
theorem dX3_lays_65 : decode cX3_lays 65 = .ok (.lstore 4, 2) := by decide +kernel
theorem dX3_lays_67 : decode cX3_lays 67 = .ok (.lload 4, 2) := by decide +kernel
theorem dX3_lays_69 : decode cX3_lays 69 = .ok (.lconst 0, 1) := by decide +kernel
theorem dX3_lays_70 : decode cX3_lays 70 = .ok (.lcmp, 1) := by decide +kernel
theorem dX3_lays_71 : decode cX3_lays 71 = .ok (.ifCond .lt 27, 3) := by decide +kernel
theorem dX3_lays_74 : decode cX3_lays 74 = .ok (.lload 4, 2) := by decide +kernel
theorem dX3_lays_76 : decode cX3_lays 76 = .ok (.ldc2_w 218, 3) := by decide +kernel
theorem dX3_lays_79 : decode cX3_lays 79 = .ok (.lcmp, 1) := by decide +kernel
theorem dX3_lays_80 : decode cX3_lays 80 = .ok (.ifCond .gt 18, 3) := by decide +kernel
theorem dX3_lays_83 : decode cX3_lays 83 = .ok (.aload_n 0, 1) := by decide +kernel
theorem dX3_lays_84 : decode cX3_lays 84 = .ok (.getfield 12, 3) := by decide +kernel
theorem dX3_lays_87 : decode cX3_lays 87 = .ok (.getfield 61, 3) := by decide +kernel
theorem dX3_lays_90 : decode cX3_lays 90 = .ok (.iload_n 3, 1) := by decide +kernel
theorem dX3_lays_91 : decode cX3_lays 91 = .ok (.lload 4, 2) := by decide +kernel
theorem dX3_lays_93 : decode cX3_lays 93 = .ok (.l2i, 1) := by decide +kernel
theorem dX3_lays_94 : decode cX3_lays 94 = .ok (.iastore, 1) := by decide +kernel
theorem dX3_lays_95 : decode cX3_lays 95 = .ok (.iinc 2 1, 3) := by decide +kernel
theorem dX3_lays_98 : decode cX3_lays 98 = .ok (.iinc 3 1, 3) := by decide +kernel
theorem dX3_lays_101 : decode cX3_lays 101 = .ok (.goto (-66), 3) := by decide +kernel
theorem dX3_lays_104 : decode cX3_lays 104 = .ok (.iload_n 2, 1) := by decide +kernel
theorem dX3_lays_105 : decode cX3_lays 105 = .ok (.ireturn, 1) := by decide +kernel
set_option maxRecDepth 20000 in
theorem ggX3_book_X3_isSheet : GoodIn wsX3_book wsX3_isSheet := goodIn_r _ [8] (by decide +kernel) (by decide +kernel)
set_option maxRecDepth 20000 in
theorem gX3_book_X3_isSheet : GoodIn wsX3_book (va_wsS RX3 182 yX3_isSheet wsX3_isSheet) := goodIn_app (goodIn_of _ (by decide +kernel)) ggX3_book_X3_isSheet
set_option maxRecDepth 20000 in
theorem ggX3_book_X3_finding : GoodIn wsX3_book wsX3_finding := goodIn_r _ [12, 13, 14, 96, 97, 98, 99, 100, 101, 102, 103, 104] (by decide +kernel) (by decide +kernel)
set_option maxRecDepth 20000 in
theorem gX3_book_X3_finding : GoodIn wsX3_book (wsV RX3 54 RX3 yX3_finding wsX3_finding) := goodIn_app (goodIn_of _ (by decide +kernel)) ggX3_book_X3_finding
set_option maxRecDepth 20000 in
theorem ggX3_book_X1_isMissing : GoodIn wsX3_book wsX1_isMissing := goodIn_r _ [19, 20, 105, 106, 107] (by decide +kernel) (by decide +kernel)
set_option maxRecDepth 20000 in
theorem gX3_book_X1_isMissing : GoodIn wsX3_book (wsV RX3 194 RX1 yX1_isMissing wsX1_isMissing) := goodIn_app (goodIn_of _ (by decide +kernel)) ggX3_book_X1_isMissing
set_option maxRecDepth 20000 in
theorem ggX3_book_X3_isTree : GoodIn wsX3_book wsX3_isTree := goodIn_r _ [23] (by decide +kernel) (by decide +kernel)
set_option maxRecDepth 20000 in
theorem gX3_book_X3_isTree : GoodIn wsX3_book (va_wsS RX3 50 yX3_isTree wsX3_isTree) := goodIn_app (goodIn_of _ (by decide +kernel)) ggX3_book_X3_isTree
set_option maxRecDepth 20000 in
theorem ggX3_book_X3_suppose : GoodIn wsX3_book wsX3_suppose := goodIn_r _ [27, 3, 28, 29, 30, 31, 32, 33, 34, 35, 36, 37, 38, 39, 40, 41, 42, 43, 96, 97, 98, 99, 100, 101, 102, 103, 104, 108, 109, 110, 111, 112, 113] (by decide +kernel) (by decide +kernel)
set_option maxRecDepth 20000 in
theorem gX3_book_X3_suppose : GoodIn wsX3_book (wsV RX3 148 RX3 yX3_suppose wsX3_suppose) := goodIn_app (goodIn_of _ (by decide +kernel)) ggX3_book_X3_suppose
set_option maxRecDepth 20000 in
theorem ggX3_book_X1_put : GoodIn wsX3_book wsX1_put := goodIn_r _ [47, 20, 48, 105, 106, 107] (by decide +kernel) (by decide +kernel)
set_option maxRecDepth 20000 in
theorem gX3_book_X1_put : GoodIn wsX3_book (wsV RX3 202 RX1 yX1_put wsX1_put) := goodIn_app (goodIn_of _ (by decide +kernel)) ggX3_book_X1_put
set_option maxRecDepth 20000 in
theorem ggX3_book_X0_passYears : GoodIn wsX3_book wsX0_passYears := goodIn_r _ [52, 53, 54, 55, 32, 56, 41, 57, 58, 59, 60, 34, 61, 62, 63, 64, 42, 65, 66, 67, 68, 35, 69, 70, 71, 72, 36, 73, 74, 75, 76, 77, 78, 79, 80, 81, 82, 83, 84, 85, 86, 87, 43, 88, 89, 90, 91, 92, 93, 94, 95, 108, 109, 110, 111, 112, 113] (by decide +kernel) (by decide +kernel)
set_option maxRecDepth 20000 in
theorem gX3_book_X0_passYears : GoodIn wsX3_book (wsV RX3 125 RX0 yX0_passYears wsX0_passYears) := goodIn_app (goodIn_of _ (by decide +kernel)) ggX3_book_X0_passYears
theorem dX3_book_0 : decode cX3_book 0 = .ok (.iload_n 1, 1) := by decide +kernel
theorem dX3_book_1 : decode cX3_book 1 = .ok (.invokestatic 182, 3) := by decide +kernel
theorem dX3_book_4 : decode cX3_book 4 = .ok (.ifCond .ne 9, 3) := by decide +kernel
theorem dX3_book_7 : decode cX3_book 7 = .ok (.aload_n 0, 1) := by decide +kernel
theorem dX3_book_8 : decode cX3_book 8 = .ok (.iconst 0, 1) := by decide +kernel
theorem dX3_book_9 : decode cX3_book 9 = .ok (.invokevirtual 54, 3) := by decide +kernel
theorem dX3_book_12 : decode cX3_book 12 = .ok (.ireturn, 1) := by decide +kernel
theorem dX3_book_13 : decode cX3_book 13 = .ok (.aload_n 0, 1) := by decide +kernel
theorem dX3_book_14 : decode cX3_book 14 = .ok (.getfield 38, 3) := by decide +kernel
theorem dX3_book_17 : decode cX3_book 17 = .ok (.iload_n 1, 1) := by decide +kernel
theorem dX3_book_18 : decode cX3_book 18 = .ok (.aaload, 1) := by decide +kernel
theorem dX3_book_19 : decode cX3_book 19 = .ok (.invokevirtual 194, 3) := by decide +kernel
theorem dX3_book_22 : decode cX3_book 22 = .ok (.ifCond .eq 9, 3) := by decide +kernel
theorem dX3_book_25 : decode cX3_book 25 = .ok (.aload_n 0, 1) := by decide +kernel
theorem dX3_book_26 : decode cX3_book 26 = .ok (.iconst 5, 1) := by decide +kernel
theorem dX3_book_27 : decode cX3_book 27 = .ok (.invokevirtual 54, 3) := by decide +kernel
theorem dX3_book_30 : decode cX3_book 30 = .ok (.ireturn, 1) := by decide +kernel
theorem dX3_book_31 : decode cX3_book 31 = .ok (.iload_n 2, 1) := by decide +kernel
theorem dX3_book_32 : decode cX3_book 32 = .ok (.invokestatic 50, 3) := by decide +kernel
theorem dX3_book_35 : decode cX3_book 35 = .ok (.ifCond .ne 9, 3) := by decide +kernel
theorem dX3_book_38 : decode cX3_book 38 = .ok (.aload_n 0, 1) := by decide +kernel
theorem dX3_book_39 : decode cX3_book 39 = .ok (.iconst 0, 1) := by decide +kernel
theorem dX3_book_40 : decode cX3_book 40 = .ok (.invokevirtual 54, 3) := by decide +kernel
theorem dX3_book_43 : decode cX3_book 43 = .ok (.ireturn, 1) := by decide +kernel
theorem dX3_book_44 : decode cX3_book 44 = .ok (.aload_n 0, 1) := by decide +kernel
theorem dX3_book_45 : decode cX3_book 45 = .ok (.invokevirtual 148, 3) := by decide +kernel
theorem dX3_book_48 : decode cX3_book 48 = .ok (.iconst 0, 1) := by decide +kernel
theorem dX3_book_49 : decode cX3_book 49 = .ok (.istore_n 3, 1) := by decide +kernel
theorem dX3_book_50 : decode cX3_book 50 = .ok (.iload_n 3, 1) := by decide +kernel
theorem dX3_book_51 : decode cX3_book 51 = .ok (.aload_n 0, 1) := by decide +kernel
theorem dX3_book_52 : decode cX3_book 52 = .ok (.getfield 38, 3) := by decide +kernel
theorem dX3_book_55 : decode cX3_book 55 = .ok (.iload_n 1, 1) := by decide +kernel
theorem dX3_book_56 : decode cX3_book 56 = .ok (.aaload, 1) := by decide +kernel
theorem dX3_book_57 : decode cX3_book 57 = .ok (.getfield 191, 3) := by decide +kernel
theorem dX3_book_60 : decode cX3_book 60 = .ok (.if_icmp .ge 37, 3) := by decide +kernel
theorem dX3_book_63 : decode cX3_book 63 = .ok (.aload_n 0, 1) := by decide +kernel
theorem dX3_book_64 : decode cX3_book 64 = .ok (.getfield 38, 3) := by decide +kernel
theorem dX3_book_67 : decode cX3_book 67 = .ok (.iload_n 1, 1) := by decide +kernel
theorem dX3_book_68 : decode cX3_book 68 = .ok (.aaload, 1) := by decide +kernel
theorem dX3_book_69 : decode cX3_book 69 = .ok (.iload_n 3, 1) := by decide +kernel
theorem dX3_book_70 : decode cX3_book 70 = .ok (.aload_n 0, 1) := by decide +kernel
theorem dX3_book_71 : decode cX3_book 71 = .ok (.getfield 19, 3) := by decide +kernel
theorem dX3_book_74 : decode cX3_book 74 = .ok (.getfield 74, 3) := by decide +kernel
theorem dX3_book_77 : decode cX3_book 77 = .ok (.iload_n 2, 1) := by decide +kernel
theorem dX3_book_78 : decode cX3_book 78 = .ok (.iaload, 1) := by decide +kernel
theorem dX3_book_79 : decode cX3_book 79 = .ok (.i2l, 1) := by decide +kernel
theorem dX3_book_80 : decode cX3_book 80 = .ok (.invokevirtual 202, 3) := by decide +kernel
theorem dX3_book_83 : decode cX3_book 83 = .ok (.aload_n 0, 1) := by decide +kernel
theorem dX3_book_84 : decode cX3_book 84 = .ok (.getfield 19, 3) := by decide +kernel
theorem dX3_book_87 : decode cX3_book 87 = .ok (.iconst 1, 1) := by decide +kernel
theorem dX3_book_88 : decode cX3_book 88 = .ok (.invokevirtual 125, 3) := by decide +kernel
theorem dX3_book_91 : decode cX3_book 91 = .ok (.iinc 3 1, 3) := by decide +kernel
theorem dX3_book_94 : decode cX3_book 94 = .ok (.goto (-44), 3) := by decide +kernel
theorem dX3_book_97 : decode cX3_book 97 = .ok (.aload_n 0, 1) := by decide +kernel
theorem dX3_book_98 : decode cX3_book 98 = .ok (.getfield 38, 3) := by decide +kernel
theorem dX3_book_101 : decode cX3_book 101 = .ok (.iload_n 1, 1) := by decide +kernel
theorem dX3_book_102 : decode cX3_book 102 = .ok (.aaload, 1) := by decide +kernel
theorem dX3_book_103 : decode cX3_book 103 = .ok (.getfield 191, 3) := by decide +kernel
theorem dX3_book_106 : decode cX3_book 106 = .ok (.ireturn, 1) := by decide +kernel
set_option maxRecDepth 20000 in
theorem ggX3_read_X3_isSheet : GoodIn wsX3_read wsX3_isSheet := goodIn_r _ [7] (by decide +kernel) (by decide +kernel)
set_option maxRecDepth 20000 in
theorem gX3_read_X3_isSheet : GoodIn wsX3_read (va_wsS RX3 182 yX3_isSheet wsX3_isSheet) := goodIn_app (goodIn_of _ (by decide +kernel)) ggX3_read_X3_isSheet
set_option maxRecDepth 20000 in
theorem ggX3_read_X3_finding : GoodIn wsX3_read wsX3_finding := goodIn_r _ [11, 12, 13, 97, 98, 99, 100, 101, 102, 103, 104, 105] (by decide +kernel) (by decide +kernel)
set_option maxRecDepth 20000 in
theorem gX3_read_X3_finding : GoodIn wsX3_read (wsV RX3 54 RX3 yX3_finding wsX3_finding) := goodIn_app (goodIn_of _ (by decide +kernel)) ggX3_read_X3_finding
set_option maxRecDepth 20000 in
theorem ggX3_read_X1_isMissing : GoodIn wsX3_read wsX1_isMissing := goodIn_r _ [18, 19, 112, 113, 114] (by decide +kernel) (by decide +kernel)
set_option maxRecDepth 20000 in
theorem gX3_read_X1_isMissing : GoodIn wsX3_read (wsV RX3 194 RX1 yX1_isMissing wsX1_isMissing) := goodIn_app (goodIn_of _ (by decide +kernel)) ggX3_read_X1_isMissing
set_option maxRecDepth 20000 in
theorem ggX3_read_X3_isTree : GoodIn wsX3_read wsX3_isTree := goodIn_r _ [22] (by decide +kernel) (by decide +kernel)
set_option maxRecDepth 20000 in
theorem gX3_read_X3_isTree : GoodIn wsX3_read (va_wsS RX3 50 yX3_isTree wsX3_isTree) := goodIn_app (goodIn_of _ (by decide +kernel)) ggX3_read_X3_isTree
set_option maxRecDepth 20000 in
theorem ggX3_read_X3_suppose : GoodIn wsX3_read wsX3_suppose := goodIn_r _ [26, 2, 27, 28, 29, 30, 31, 32, 33, 34, 35, 36, 37, 38, 39, 40, 41, 42, 97, 98, 99, 100, 101, 102, 103, 104, 105, 106, 107, 108, 109, 110, 111] (by decide +kernel) (by decide +kernel)
set_option maxRecDepth 20000 in
theorem gX3_read_X3_suppose : GoodIn wsX3_read (wsV RX3 148 RX3 yX3_suppose wsX3_suppose) := goodIn_app (goodIn_of _ (by decide +kernel)) ggX3_read_X3_suppose
set_option maxRecDepth 20000 in
theorem ggX3_read_X3_goesAsWritten : GoodIn wsX3_read wsX3_goesAsWritten := goodIn_r _ [46, 47, 48, 2, 49, 50, 51, 52, 31, 53, 54, 55, 56, 57, 40, 58, 59, 60, 61, 33, 62, 63, 64, 65, 41, 66, 67, 68, 69, 34, 70, 71, 72, 73, 35, 74, 75, 76, 77, 78, 79, 80, 81, 82, 83, 84, 85, 86, 87, 88, 42, 89, 90, 91, 92, 93, 94, 95, 96, 112, 113, 114, 97, 98, 99, 100, 101, 102, 103, 104, 105, 106, 107, 108, 109, 110, 111] (by decide +kernel) (by decide +kernel)
set_option maxRecDepth 20000 in
theorem gX3_read_X3_goesAsWritten : GoodIn wsX3_read (wsV RX3 220 RX3 yX3_goesAsWritten wsX3_goesAsWritten) := goodIn_app (goodIn_of _ (by decide +kernel)) ggX3_read_X3_goesAsWritten
theorem dX3_read_0 : decode cX3_read 0 = .ok (.iload_n 1, 1) := by decide +kernel
theorem dX3_read_1 : decode cX3_read 1 = .ok (.invokestatic 182, 3) := by decide +kernel
theorem dX3_read_4 : decode cX3_read 4 = .ok (.ifCond .ne 9, 3) := by decide +kernel
theorem dX3_read_7 : decode cX3_read 7 = .ok (.aload_n 0, 1) := by decide +kernel
theorem dX3_read_8 : decode cX3_read 8 = .ok (.iconst 0, 1) := by decide +kernel
theorem dX3_read_9 : decode cX3_read 9 = .ok (.invokevirtual 54, 3) := by decide +kernel
theorem dX3_read_12 : decode cX3_read 12 = .ok (.ireturn, 1) := by decide +kernel
theorem dX3_read_13 : decode cX3_read 13 = .ok (.aload_n 0, 1) := by decide +kernel
theorem dX3_read_14 : decode cX3_read 14 = .ok (.getfield 38, 3) := by decide +kernel
theorem dX3_read_17 : decode cX3_read 17 = .ok (.iload_n 1, 1) := by decide +kernel
theorem dX3_read_18 : decode cX3_read 18 = .ok (.aaload, 1) := by decide +kernel
theorem dX3_read_19 : decode cX3_read 19 = .ok (.invokevirtual 194, 3) := by decide +kernel
theorem dX3_read_22 : decode cX3_read 22 = .ok (.ifCond .eq 9, 3) := by decide +kernel
theorem dX3_read_25 : decode cX3_read 25 = .ok (.aload_n 0, 1) := by decide +kernel
theorem dX3_read_26 : decode cX3_read 26 = .ok (.iconst 5, 1) := by decide +kernel
theorem dX3_read_27 : decode cX3_read 27 = .ok (.invokevirtual 54, 3) := by decide +kernel
theorem dX3_read_30 : decode cX3_read 30 = .ok (.ireturn, 1) := by decide +kernel
theorem dX3_read_31 : decode cX3_read 31 = .ok (.iload_n 2, 1) := by decide +kernel
theorem dX3_read_32 : decode cX3_read 32 = .ok (.invokestatic 50, 3) := by decide +kernel
theorem dX3_read_35 : decode cX3_read 35 = .ok (.ifCond .eq 15, 3) := by decide +kernel
theorem dX3_read_38 : decode cX3_read 38 = .ok (.iload_n 3, 1) := by decide +kernel
theorem dX3_read_39 : decode cX3_read 39 = .ok (.invokestatic 50, 3) := by decide +kernel
theorem dX3_read_42 : decode cX3_read 42 = .ok (.ifCond .eq 8, 3) := by decide +kernel
theorem dX3_read_45 : decode cX3_read 45 = .ok (.iload_n 2, 1) := by decide +kernel
theorem dX3_read_46 : decode cX3_read 46 = .ok (.iload_n 3, 1) := by decide +kernel
theorem dX3_read_47 : decode cX3_read 47 = .ok (.if_icmp .ne 9, 3) := by decide +kernel
theorem dX3_read_50 : decode cX3_read 50 = .ok (.aload_n 0, 1) := by decide +kernel
theorem dX3_read_51 : decode cX3_read 51 = .ok (.iconst 0, 1) := by decide +kernel
theorem dX3_read_52 : decode cX3_read 52 = .ok (.invokevirtual 54, 3) := by decide +kernel
theorem dX3_read_55 : decode cX3_read 55 = .ok (.ireturn, 1) := by decide +kernel
theorem dX3_read_56 : decode cX3_read 56 = .ok (.iconst 0, 1) := by decide +kernel
theorem dX3_read_57 : decode cX3_read 57 = .ok (.istore 4, 2) := by decide +kernel
theorem dX3_read_59 : decode cX3_read 59 = .ok (.iconst 0, 1) := by decide +kernel
theorem dX3_read_60 : decode cX3_read 60 = .ok (.istore 5, 2) := by decide +kernel
theorem dX3_read_62 : decode cX3_read 62 = .ok (.iload 5, 2) := by decide +kernel
theorem dX3_read_64 : decode cX3_read 64 = .ok (.bipush 6, 2) := by decide +kernel
theorem dX3_read_66 : decode cX3_read 66 = .ok (.if_icmp .ge 68, 3) := by decide +kernel
theorem dX3_read_69 : decode cX3_read 69 = .ok (.iconst 0, 1) := by decide +kernel
theorem dX3_read_70 : decode cX3_read 70 = .ok (.istore 6, 2) := by decide +kernel
theorem dX3_read_72 : decode cX3_read 72 = .ok (.iload 6, 2) := by decide +kernel
theorem dX3_read_74 : decode cX3_read 74 = .ok (.bipush 6, 2) := by decide +kernel
theorem dX3_read_76 : decode cX3_read 76 = .ok (.if_icmp .ge 52, 3) := by decide +kernel
theorem dX3_read_79 : decode cX3_read 79 = .ok (.aload_n 0, 1) := by decide +kernel
theorem dX3_read_80 : decode cX3_read 80 = .ok (.invokevirtual 148, 3) := by decide +kernel
theorem dX3_read_83 : decode cX3_read 83 = .ok (.aload_n 0, 1) := by decide +kernel
theorem dX3_read_84 : decode cX3_read 84 = .ok (.getfield 19, 3) := by decide +kernel
theorem dX3_read_87 : decode cX3_read 87 = .ok (.getfield 58, 3) := by decide +kernel
theorem dX3_read_90 : decode cX3_read 90 = .ok (.iload_n 2, 1) := by decide +kernel
theorem dX3_read_91 : decode cX3_read 91 = .ok (.iload 5, 2) := by decide +kernel
theorem dX3_read_93 : decode cX3_read 93 = .ok (.iastore, 1) := by decide +kernel
theorem dX3_read_94 : decode cX3_read 94 = .ok (.aload_n 0, 1) := by decide +kernel
theorem dX3_read_95 : decode cX3_read 95 = .ok (.getfield 19, 3) := by decide +kernel
theorem dX3_read_98 : decode cX3_read 98 = .ok (.getfield 58, 3) := by decide +kernel
theorem dX3_read_101 : decode cX3_read 101 = .ok (.iload_n 3, 1) := by decide +kernel
theorem dX3_read_102 : decode cX3_read 102 = .ok (.iload 6, 2) := by decide +kernel
theorem dX3_read_104 : decode cX3_read 104 = .ok (.iastore, 1) := by decide +kernel
theorem dX3_read_105 : decode cX3_read 105 = .ok (.aload_n 0, 1) := by decide +kernel
theorem dX3_read_106 : decode cX3_read 106 = .ok (.aload_n 0, 1) := by decide +kernel
theorem dX3_read_107 : decode cX3_read 107 = .ok (.getfield 38, 3) := by decide +kernel
theorem dX3_read_110 : decode cX3_read 110 = .ok (.iload_n 1, 1) := by decide +kernel
theorem dX3_read_111 : decode cX3_read 111 = .ok (.aaload, 1) := by decide +kernel
theorem dX3_read_112 : decode cX3_read 112 = .ok (.iload_n 2, 1) := by decide +kernel
theorem dX3_read_113 : decode cX3_read 113 = .ok (.invokevirtual 220, 3) := by decide +kernel
theorem dX3_read_116 : decode cX3_read 116 = .ok (.ifCond .eq 6, 3) := by decide +kernel
theorem dX3_read_119 : decode cX3_read 119 = .ok (.iinc 4 1, 3) := by decide +kernel
theorem dX3_read_122 : decode cX3_read 122 = .ok (.iinc 6 1, 3) := by decide +kernel
theorem dX3_read_125 : decode cX3_read 125 = .ok (.goto (-53), 3) := by decide +kernel
theorem dX3_read_128 : decode cX3_read 128 = .ok (.iinc 5 1, 3) := by decide +kernel
theorem dX3_read_131 : decode cX3_read 131 = .ok (.goto (-69), 3) := by decide +kernel
theorem dX3_read_134 : decode cX3_read 134 = .ok (.iload 4, 2) := by decide +kernel
theorem dX3_read_136 : decode cX3_read 136 = .ok (.ireturn, 1) := by decide +kernel
set_option maxRecDepth 20000 in
theorem ggX3_image_X0_become : GoodIn wsX3_image wsX0_become := goodIn_r _ [8, 9, 10, 11, 12, 13, 14, 15, 16, 17, 18, 28, 29, 30, 31, 32, 33] (by decide +kernel) (by decide +kernel)
set_option maxRecDepth 20000 in
theorem gX3_image_X0_become : GoodIn wsX3_image (wsV RX3 164 RX0 yX0_become wsX0_become) := goodIn_app (goodIn_of _ (by decide +kernel)) ggX3_image_X0_become
theorem dX3_image_0 : decode cX3_image 0 = .ok (.aload_n 0, 1) := by decide +kernel
theorem dX3_image_1 : decode cX3_image 1 = .ok (.getfield 16, 3) := by decide +kernel
theorem dX3_image_4 : decode cX3_image 4 = .ok (.aload_n 0, 1) := by decide +kernel
theorem dX3_image_5 : decode cX3_image 5 = .ok (.getfield 12, 3) := by decide +kernel
theorem dX3_image_8 : decode cX3_image 8 = .ok (.invokevirtual 164, 3) := by decide +kernel
theorem dX3_image_11 : decode cX3_image 11 = .ok (.aload_n 0, 1) := by decide +kernel
theorem dX3_image_12 : decode cX3_image 12 = .ok (.iconst 1, 1) := by decide +kernel
theorem dX3_image_13 : decode cX3_image 13 = .ok (.putfield 45, 3) := by decide +kernel
theorem dX3_image_16 : decode cX3_image 16 = .ok (.iconst 1, 1) := by decide +kernel
theorem dX3_image_17 : decode cX3_image 17 = .ok (.ireturn, 1) := by decide +kernel
set_option maxRecDepth 20000 in
theorem ggX3_undo_X3_finding : GoodIn wsX3_undo wsX3_finding := goodIn_r _ [9, 10, 11, 27, 28, 29, 30, 31, 32, 33, 34, 35] (by decide +kernel) (by decide +kernel)
set_option maxRecDepth 20000 in
theorem gX3_undo_X3_finding : GoodIn wsX3_undo (wsV RX3 54 RX3 yX3_finding wsX3_finding) := goodIn_app (goodIn_of _ (by decide +kernel)) ggX3_undo_X3_finding
set_option maxRecDepth 20000 in
theorem ggX3_undo_X0_become : GoodIn wsX3_undo wsX0_become := goodIn_r _ [16, 17, 18, 19, 20, 21, 22, 23, 24, 25, 26, 36, 37, 38, 39, 40, 41] (by decide +kernel) (by decide +kernel)
set_option maxRecDepth 20000 in
theorem gX3_undo_X0_become : GoodIn wsX3_undo (wsV RX3 164 RX0 yX0_become wsX0_become) := goodIn_app (goodIn_of _ (by decide +kernel)) ggX3_undo_X0_become
theorem dX3_undo_0 : decode cX3_undo 0 = .ok (.aload_n 0, 1) := by decide +kernel
theorem dX3_undo_1 : decode cX3_undo 1 = .ok (.getfield 45, 3) := by decide +kernel
theorem dX3_undo_4 : decode cX3_undo 4 = .ok (.ifCond .ne 9, 3) := by decide +kernel
theorem dX3_undo_7 : decode cX3_undo 7 = .ok (.aload_n 0, 1) := by decide +kernel
theorem dX3_undo_8 : decode cX3_undo 8 = .ok (.iconst 3, 1) := by decide +kernel
theorem dX3_undo_9 : decode cX3_undo 9 = .ok (.invokevirtual 54, 3) := by decide +kernel
theorem dX3_undo_12 : decode cX3_undo 12 = .ok (.ireturn, 1) := by decide +kernel
theorem dX3_undo_13 : decode cX3_undo 13 = .ok (.aload_n 0, 1) := by decide +kernel
theorem dX3_undo_14 : decode cX3_undo 14 = .ok (.getfield 12, 3) := by decide +kernel
theorem dX3_undo_17 : decode cX3_undo 17 = .ok (.aload_n 0, 1) := by decide +kernel
theorem dX3_undo_18 : decode cX3_undo 18 = .ok (.getfield 16, 3) := by decide +kernel
theorem dX3_undo_21 : decode cX3_undo 21 = .ok (.invokevirtual 164, 3) := by decide +kernel
theorem dX3_undo_24 : decode cX3_undo 24 = .ok (.aload_n 0, 1) := by decide +kernel
theorem dX3_undo_25 : decode cX3_undo 25 = .ok (.getfield 12, 3) := by decide +kernel
theorem dX3_undo_28 : decode cX3_undo 28 = .ok (.getfield 121, 3) := by decide +kernel
theorem dX3_undo_31 : decode cX3_undo 31 = .ok (.ireturn, 1) := by decide +kernel
theorem dX3_tear_0 : decode cX3_tear 0 = .ok (.aload_n 0, 1) := by decide +kernel
theorem dX3_tear_1 : decode cX3_tear 1 = .ok (.getfield 45, 3) := by decide +kernel
theorem dX3_tear_4 : decode cX3_tear 4 = .ok (.ifCond .eq 7, 3) := by decide +kernel
theorem dX3_tear_7 : decode cX3_tear 7 = .ok (.iconst 1, 1) := by decide +kernel
theorem dX3_tear_8 : decode cX3_tear 8 = .ok (.goto 4, 3) := by decide +kernel
theorem dX3_tear_11 : decode cX3_tear 11 = .ok (.iconst 0, 1) := by decide +kernel
theorem dX3_tear_12 : decode cX3_tear 12 = .ok (.istore_n 1, 1) := by decide +kernel
theorem dX3_tear_13 : decode cX3_tear 13 = .ok (.aload_n 0, 1) := by decide +kernel
theorem dX3_tear_14 : decode cX3_tear 14 = .ok (.iconst 0, 1) := by decide +kernel
theorem dX3_tear_15 : decode cX3_tear 15 = .ok (.putfield 45, 3) := by decide +kernel
theorem dX3_tear_18 : decode cX3_tear 18 = .ok (.iload_n 1, 1) := by decide +kernel
theorem dX3_tear_19 : decode cX3_tear 19 = .ok (.ireturn, 1) := by decide +kernel
set_option maxRecDepth 20000 in
theorem ggX3_count_X0_noLimes : GoodIn wsX3_count wsX0_noLimes := goodIn_r _ [9, 10, 45, 46, 47, 48, 49, 50] (by decide +kernel) (by decide +kernel)
set_option maxRecDepth 20000 in
theorem gX3_count_X0_noLimes : GoodIn wsX3_count (wsV RX3 224 RX0 yX0_noLimes wsX0_noLimes) := goodIn_app (goodIn_of _ (by decide +kernel)) ggX3_count_X0_noLimes
set_option maxRecDepth 20000 in
theorem ggX3_count_J6_bitCount_0f7a4 : GoodIn wsX3_count wsJ6_bitCount_0f7a4 := goodIn_r _ [14, 15, 16, 17] (by decide +kernel) (by decide +kernel)
set_option maxRecDepth 20000 in
theorem gX3_count_J6_bitCount_0f7a4 : GoodIn wsX3_count (va_wsS RX3 227 yJ6_bitCount_0f7a4 wsJ6_bitCount_0f7a4) := goodIn_app (goodIn_of _ (by decide +kernel)) ggX3_count_J6_bitCount_0f7a4
set_option maxRecDepth 20000 in
theorem ggX3_count_X0_treesThatKnow : GoodIn wsX3_count wsX0_treesThatKnow := goodIn_r _ [21, 22, 45, 46, 47, 48, 49, 50] (by decide +kernel) (by decide +kernel)
set_option maxRecDepth 20000 in
theorem gX3_count_X0_treesThatKnow : GoodIn wsX3_count (wsV RX3 232 RX0 yX0_treesThatKnow wsX0_treesThatKnow) := goodIn_app (goodIn_of _ (by decide +kernel)) ggX3_count_X0_treesThatKnow
set_option maxRecDepth 20000 in
theorem ggX3_count_X3_finding : GoodIn wsX3_count wsX3_finding := goodIn_r _ [27, 28, 29, 30, 31, 32, 33, 34, 35, 36, 37, 38] (by decide +kernel) (by decide +kernel)
set_option maxRecDepth 20000 in
theorem gX3_count_X3_finding : GoodIn wsX3_count (wsV RX3 54 RX3 yX3_finding wsX3_finding) := goodIn_app (goodIn_of _ (by decide +kernel)) ggX3_count_X3_finding
theorem dX3_count_0 : decode cX3_count 0 = .ok (.iload_n 1, 1) := by decide +kernel
theorem dX3_count_1 : decode cX3_count 1 = .ok (.tableswitch 66 0 3 #[31, 39, 47, 58], 31) := by decide +kernel
theorem dX3_count_32 : decode cX3_count 32 = .ok (.aload_n 0, 1) := by decide +kernel
theorem dX3_count_33 : decode cX3_count 33 = .ok (.getfield 12, 3) := by decide +kernel
theorem dX3_count_36 : decode cX3_count 36 = .ok (.invokevirtual 224, 3) := by decide +kernel
theorem dX3_count_39 : decode cX3_count 39 = .ok (.ireturn, 1) := by decide +kernel
theorem dX3_count_40 : decode cX3_count 40 = .ok (.aload_n 0, 1) := by decide +kernel
theorem dX3_count_41 : decode cX3_count 41 = .ok (.getfield 32, 3) := by decide +kernel
theorem dX3_count_44 : decode cX3_count 44 = .ok (.getfield 171, 3) := by decide +kernel
theorem dX3_count_47 : decode cX3_count 47 = .ok (.ireturn, 1) := by decide +kernel
theorem dX3_count_48 : decode cX3_count 48 = .ok (.aload_n 0, 1) := by decide +kernel
theorem dX3_count_49 : decode cX3_count 49 = .ok (.getfield 12, 3) := by decide +kernel
theorem dX3_count_52 : decode cX3_count 52 = .ok (.getfield 136, 3) := by decide +kernel
theorem dX3_count_55 : decode cX3_count 55 = .ok (.invokestatic 227, 3) := by decide +kernel
theorem dX3_count_58 : decode cX3_count 58 = .ok (.ireturn, 1) := by decide +kernel
theorem dX3_count_59 : decode cX3_count 59 = .ok (.aload_n 0, 1) := by decide +kernel
theorem dX3_count_60 : decode cX3_count 60 = .ok (.getfield 12, 3) := by decide +kernel
theorem dX3_count_63 : decode cX3_count 63 = .ok (.invokevirtual 232, 3) := by decide +kernel
theorem dX3_count_66 : decode cX3_count 66 = .ok (.ireturn, 1) := by decide +kernel
theorem dX3_count_67 : decode cX3_count 67 = .ok (.aload_n 0, 1) := by decide +kernel
theorem dX3_count_68 : decode cX3_count 68 = .ok (.iconst 0, 1) := by decide +kernel
theorem dX3_count_69 : decode cX3_count 69 = .ok (.invokevirtual 54, 3) := by decide +kernel
theorem dX3_count_72 : decode cX3_count 72 = .ok (.ireturn, 1) := by decide +kernel
set_option maxRecDepth 20000 in
theorem ggX3_status_X3_finding : GoodIn wsX3_status wsX3_finding := goodIn_r _ [6, 1, 7, 8, 9, 10, 11, 12, 13, 14, 15, 16] (by decide +kernel) (by decide +kernel)
set_option maxRecDepth 20000 in
theorem gX3_status_X3_finding : GoodIn wsX3_status (wsV RX3 54 RX3 yX3_finding wsX3_finding) := goodIn_app (goodIn_of _ (by decide +kernel)) ggX3_status_X3_finding
theorem dX3_status_0 : decode cX3_status 0 = .ok (.iload_n 1, 1) := by decide +kernel
theorem dX3_status_1 : decode cX3_status 1 = .ok (.iconst (-1), 1) := by decide +kernel
theorem dX3_status_2 : decode cX3_status 2 = .ok (.if_icmp .lt 9, 3) := by decide +kernel
theorem dX3_status_5 : decode cX3_status 5 = .ok (.iload_n 1, 1) := by decide +kernel
theorem dX3_status_6 : decode cX3_status 6 = .ok (.bipush 7, 2) := by decide +kernel
theorem dX3_status_8 : decode cX3_status 8 = .ok (.if_icmp .lt 9, 3) := by decide +kernel
theorem dX3_status_11 : decode cX3_status 11 = .ok (.aload_n 0, 1) := by decide +kernel
theorem dX3_status_12 : decode cX3_status 12 = .ok (.iconst 0, 1) := by decide +kernel
theorem dX3_status_13 : decode cX3_status 13 = .ok (.invokevirtual 54, 3) := by decide +kernel
theorem dX3_status_16 : decode cX3_status 16 = .ok (.ireturn, 1) := by decide +kernel
theorem dX3_status_17 : decode cX3_status 17 = .ok (.iload_n 1, 1) := by decide +kernel
theorem dX3_status_18 : decode cX3_status 18 = .ok (.ifCond .lt 10, 3) := by decide +kernel
theorem dX3_status_21 : decode cX3_status 21 = .ok (.aload_n 0, 1) := by decide +kernel
theorem dX3_status_22 : decode cX3_status 22 = .ok (.getfield 42, 3) := by decide +kernel
theorem dX3_status_25 : decode cX3_status 25 = .ok (.iload_n 1, 1) := by decide +kernel
theorem dX3_status_26 : decode cX3_status 26 = .ok (.iaload, 1) := by decide +kernel
theorem dX3_status_27 : decode cX3_status 27 = .ok (.ireturn, 1) := by decide +kernel
theorem dX3_status_28 : decode cX3_status 28 = .ok (.iconst 0, 1) := by decide +kernel
theorem dX3_status_29 : decode cX3_status 29 = .ok (.istore_n 2, 1) := by decide +kernel
theorem dX3_status_30 : decode cX3_status 30 = .ok (.iconst 0, 1) := by decide +kernel
theorem dX3_status_31 : decode cX3_status 31 = .ok (.istore_n 3, 1) := by decide +kernel
theorem dX3_status_32 : decode cX3_status 32 = .ok (.iload_n 3, 1) := by decide +kernel
theorem dX3_status_33 : decode cX3_status 33 = .ok (.bipush 7, 2) := by decide +kernel
theorem dX3_status_35 : decode cX3_status 35 = .ok (.if_icmp .ge 18, 3) := by decide +kernel
theorem dX3_status_38 : decode cX3_status 38 = .ok (.iload_n 2, 1) := by decide +kernel
theorem dX3_status_39 : decode cX3_status 39 = .ok (.aload_n 0, 1) := by decide +kernel
theorem dX3_status_40 : decode cX3_status 40 = .ok (.getfield 42, 3) := by decide +kernel
theorem dX3_status_43 : decode cX3_status 43 = .ok (.iload_n 3, 1) := by decide +kernel
theorem dX3_status_44 : decode cX3_status 44 = .ok (.iaload, 1) := by decide +kernel
theorem dX3_status_45 : decode cX3_status 45 = .ok (.iadd, 1) := by decide +kernel
theorem dX3_status_46 : decode cX3_status 46 = .ok (.istore_n 2, 1) := by decide +kernel
theorem dX3_status_47 : decode cX3_status 47 = .ok (.iinc 3 1, 3) := by decide +kernel
theorem dX3_status_50 : decode cX3_status 50 = .ok (.goto (-18), 3) := by decide +kernel
theorem dX3_status_53 : decode cX3_status 53 = .ok (.iload_n 2, 1) := by decide +kernel
theorem dX3_status_54 : decode cX3_status 54 = .ok (.ireturn, 1) := by decide +kernel
theorem dX3_finding_0 : decode cX3_finding 0 = .ok (.aload_n 0, 1) := by decide +kernel
theorem dX3_finding_1 : decode cX3_finding 1 = .ok (.getfield 42, 3) := by decide +kernel
theorem dX3_finding_4 : decode cX3_finding 4 = .ok (.iload_n 1, 1) := by decide +kernel
theorem dX3_finding_5 : decode cX3_finding 5 = .ok (.dup2, 1) := by decide +kernel
theorem dX3_finding_6 : decode cX3_finding 6 = .ok (.iaload, 1) := by decide +kernel
theorem dX3_finding_7 : decode cX3_finding 7 = .ok (.iconst 1, 1) := by decide +kernel
theorem dX3_finding_8 : decode cX3_finding 8 = .ok (.iadd, 1) := by decide +kernel
theorem dX3_finding_9 : decode cX3_finding 9 = .ok (.iastore, 1) := by decide +kernel
theorem dX3_finding_10 : decode cX3_finding 10 = .ok (.ldc 235, 2) := by decide +kernel
theorem dX3_finding_12 : decode cX3_finding 12 = .ok (.iload_n 1, 1) := by decide +kernel
theorem dX3_finding_13 : decode cX3_finding 13 = .ok (.isub, 1) := by decide +kernel
theorem dX3_finding_14 : decode cX3_finding 14 = .ok (.ireturn, 1) := by decide +kernel
theorem dX3_isTree_0 : decode cX3_isTree 0 = .ok (.iload_n 0, 1) := by decide +kernel
theorem dX3_isTree_1 : decode cX3_isTree 1 = .ok (.ifCond .lt 13, 3) := by decide +kernel
theorem dX3_isTree_4 : decode cX3_isTree 4 = .ok (.iload_n 0, 1) := by decide +kernel
theorem dX3_isTree_5 : decode cX3_isTree 5 = .ok (.bipush 12, 2) := by decide +kernel
theorem dX3_isTree_7 : decode cX3_isTree 7 = .ok (.if_icmp .ge 7, 3) := by decide +kernel
theorem dX3_isTree_10 : decode cX3_isTree 10 = .ok (.iconst 1, 1) := by decide +kernel
theorem dX3_isTree_11 : decode cX3_isTree 11 = .ok (.goto 4, 3) := by decide +kernel
theorem dX3_isTree_14 : decode cX3_isTree 14 = .ok (.iconst 0, 1) := by decide +kernel
theorem dX3_isTree_15 : decode cX3_isTree 15 = .ok (.ireturn, 1) := by decide +kernel
theorem dX3_isPlace_0 : decode cX3_isPlace 0 = .ok (.iload_n 0, 1) := by decide +kernel
theorem dX3_isPlace_1 : decode cX3_isPlace 1 = .ok (.ifCond .lt 13, 3) := by decide +kernel
theorem dX3_isPlace_4 : decode cX3_isPlace 4 = .ok (.iload_n 0, 1) := by decide +kernel
theorem dX3_isPlace_5 : decode cX3_isPlace 5 = .ok (.bipush 6, 2) := by decide +kernel
theorem dX3_isPlace_7 : decode cX3_isPlace 7 = .ok (.if_icmp .ge 7, 3) := by decide +kernel
theorem dX3_isPlace_10 : decode cX3_isPlace 10 = .ok (.iconst 1, 1) := by decide +kernel
theorem dX3_isPlace_11 : decode cX3_isPlace 11 = .ok (.goto 4, 3) := by decide +kernel
theorem dX3_isPlace_14 : decode cX3_isPlace 14 = .ok (.iconst 0, 1) := by decide +kernel
theorem dX3_isPlace_15 : decode cX3_isPlace 15 = .ok (.ireturn, 1) := by decide +kernel
theorem dX3_isMessage_0 : decode cX3_isMessage 0 = .ok (.iload_n 0, 1) := by decide +kernel
theorem dX3_isMessage_1 : decode cX3_isMessage 1 = .ok (.ifCond .lt 13, 3) := by decide +kernel
theorem dX3_isMessage_4 : decode cX3_isMessage 4 = .ok (.iload_n 0, 1) := by decide +kernel
theorem dX3_isMessage_5 : decode cX3_isMessage 5 = .ok (.bipush 8, 2) := by decide +kernel
theorem dX3_isMessage_7 : decode cX3_isMessage 7 = .ok (.if_icmp .ge 7, 3) := by decide +kernel
theorem dX3_isMessage_10 : decode cX3_isMessage 10 = .ok (.iconst 1, 1) := by decide +kernel
theorem dX3_isMessage_11 : decode cX3_isMessage 11 = .ok (.goto 4, 3) := by decide +kernel
theorem dX3_isMessage_14 : decode cX3_isMessage 14 = .ok (.iconst 0, 1) := by decide +kernel
theorem dX3_isMessage_15 : decode cX3_isMessage 15 = .ok (.ireturn, 1) := by decide +kernel
theorem dX3_isKind_0 : decode cX3_isKind 0 = .ok (.iload_n 0, 1) := by decide +kernel
theorem dX3_isKind_1 : decode cX3_isKind 1 = .ok (.ifCond .lt 13, 3) := by decide +kernel
theorem dX3_isKind_4 : decode cX3_isKind 4 = .ok (.iload_n 0, 1) := by decide +kernel
theorem dX3_isKind_5 : decode cX3_isKind 5 = .ok (.bipush 6, 2) := by decide +kernel
theorem dX3_isKind_7 : decode cX3_isKind 7 = .ok (.if_icmp .ge 7, 3) := by decide +kernel
theorem dX3_isKind_10 : decode cX3_isKind 10 = .ok (.iconst 1, 1) := by decide +kernel
theorem dX3_isKind_11 : decode cX3_isKind 11 = .ok (.goto 4, 3) := by decide +kernel
theorem dX3_isKind_14 : decode cX3_isKind 14 = .ok (.iconst 0, 1) := by decide +kernel
theorem dX3_isKind_15 : decode cX3_isKind 15 = .ok (.ireturn, 1) := by decide +kernel
theorem dX3_isAge_0 : decode cX3_isAge 0 = .ok (.iload_n 0, 1) := by decide +kernel
theorem dX3_isAge_1 : decode cX3_isAge 1 = .ok (.ifCond .lt 14, 3) := by decide +kernel
theorem dX3_isAge_4 : decode cX3_isAge 4 = .ok (.iload_n 0, 1) := by decide +kernel
theorem dX3_isAge_5 : decode cX3_isAge 5 = .ok (.sipush 999, 3) := by decide +kernel
theorem dX3_isAge_8 : decode cX3_isAge 8 = .ok (.if_icmp .gt 7, 3) := by decide +kernel
theorem dX3_isAge_11 : decode cX3_isAge 11 = .ok (.iconst 1, 1) := by decide +kernel
theorem dX3_isAge_12 : decode cX3_isAge 12 = .ok (.goto 4, 3) := by decide +kernel
theorem dX3_isAge_15 : decode cX3_isAge 15 = .ok (.iconst 0, 1) := by decide +kernel
theorem dX3_isAge_16 : decode cX3_isAge 16 = .ok (.ireturn, 1) := by decide +kernel
theorem dX3_isSheet_0 : decode cX3_isSheet 0 = .ok (.iload_n 0, 1) := by decide +kernel
theorem dX3_isSheet_1 : decode cX3_isSheet 1 = .ok (.ifCond .lt 12, 3) := by decide +kernel
theorem dX3_isSheet_4 : decode cX3_isSheet 4 = .ok (.iload_n 0, 1) := by decide +kernel
theorem dX3_isSheet_5 : decode cX3_isSheet 5 = .ok (.iconst 4, 1) := by decide +kernel
theorem dX3_isSheet_6 : decode cX3_isSheet 6 = .ok (.if_icmp .ge 7, 3) := by decide +kernel
theorem dX3_isSheet_9 : decode cX3_isSheet 9 = .ok (.iconst 1, 1) := by decide +kernel
theorem dX3_isSheet_10 : decode cX3_isSheet 10 = .ok (.goto 4, 3) := by decide +kernel
theorem dX3_isSheet_13 : decode cX3_isSheet 13 = .ok (.iconst 0, 1) := by decide +kernel
theorem dX3_isSheet_14 : decode cX3_isSheet 14 = .ok (.ireturn, 1) := by decide +kernel
theorem dX3_isWidth_0 : decode cX3_isWidth 0 = .ok (.iload_n 0, 1) := by decide +kernel
theorem dX3_isWidth_1 : decode cX3_isWidth 1 = .ok (.ifCond .eq 21, 3) := by decide +kernel
theorem dX3_isWidth_4 : decode cX3_isWidth 4 = .ok (.iload_n 0, 1) := by decide +kernel
theorem dX3_isWidth_5 : decode cX3_isWidth 5 = .ok (.bipush 8, 2) := by decide +kernel
theorem dX3_isWidth_7 : decode cX3_isWidth 7 = .ok (.if_icmp .eq 15, 3) := by decide +kernel
theorem dX3_isWidth_10 : decode cX3_isWidth 10 = .ok (.iload_n 0, 1) := by decide +kernel
theorem dX3_isWidth_11 : decode cX3_isWidth 11 = .ok (.bipush 16, 2) := by decide +kernel
theorem dX3_isWidth_13 : decode cX3_isWidth 13 = .ok (.if_icmp .eq 9, 3) := by decide +kernel
theorem dX3_isWidth_16 : decode cX3_isWidth 16 = .ok (.iload_n 0, 1) := by decide +kernel
theorem dX3_isWidth_17 : decode cX3_isWidth 17 = .ok (.bipush 64, 2) := by decide +kernel
theorem dX3_isWidth_19 : decode cX3_isWidth 19 = .ok (.if_icmp .ne 7, 3) := by decide +kernel
theorem dX3_isWidth_22 : decode cX3_isWidth 22 = .ok (.iconst 1, 1) := by decide +kernel
theorem dX3_isWidth_23 : decode cX3_isWidth 23 = .ok (.goto 4, 3) := by decide +kernel
theorem dX3_isWidth_26 : decode cX3_isWidth 26 = .ok (.iconst 0, 1) := by decide +kernel
theorem dX3_isWidth_27 : decode cX3_isWidth 27 = .ok (.ireturn, 1) := by decide +kernel
theorem dX3_treeAt_0 : decode cX3_treeAt 0 = .ok (.iconst 2, 1) := by decide +kernel
theorem dX3_treeAt_1 : decode cX3_treeAt 1 = .ok (.iload_n 0, 1) := by decide +kernel
theorem dX3_treeAt_2 : decode cX3_treeAt 2 = .ok (.imul, 1) := by decide +kernel
theorem dX3_treeAt_3 : decode cX3_treeAt 3 = .ok (.iload_n 1, 1) := by decide +kernel
theorem dX3_treeAt_4 : decode cX3_treeAt 4 = .ok (.iadd, 1) := by decide +kernel
theorem dX3_treeAt_5 : decode cX3_treeAt 5 = .ok (.ireturn, 1) := by decide +kernel
theorem dX3_isUnder_0 : decode cX3_isUnder 0 = .ok (.iload_n 1, 1) := by decide +kernel
theorem dX3_isUnder_1 : decode cX3_isUnder 1 = .ok (.ifCond .eq 28, 3) := by decide +kernel
theorem dX3_isUnder_4 : decode cX3_isUnder 4 = .ok (.iload_n 0, 1) := by decide +kernel
theorem dX3_isUnder_5 : decode cX3_isUnder 5 = .ok (.iload_n 1, 1) := by decide +kernel
theorem dX3_isUnder_6 : decode cX3_isUnder 6 = .ok (.if_icmp .eq 23, 3) := by decide +kernel
theorem dX3_isUnder_9 : decode cX3_isUnder 9 = .ok (.iload_n 0, 1) := by decide +kernel
theorem dX3_isUnder_10 : decode cX3_isUnder 10 = .ok (.iconst 4, 1) := by decide +kernel
theorem dX3_isUnder_11 : decode cX3_isUnder 11 = .ok (.if_icmp .ne 8, 3) := by decide +kernel
theorem dX3_isUnder_14 : decode cX3_isUnder 14 = .ok (.iload_n 1, 1) := by decide +kernel
theorem dX3_isUnder_15 : decode cX3_isUnder 15 = .ok (.iconst 1, 1) := by decide +kernel
theorem dX3_isUnder_16 : decode cX3_isUnder 16 = .ok (.if_icmp .eq 13, 3) := by decide +kernel
theorem dX3_isUnder_19 : decode cX3_isUnder 19 = .ok (.iload_n 0, 1) := by decide +kernel
theorem dX3_isUnder_20 : decode cX3_isUnder 20 = .ok (.iconst 5, 1) := by decide +kernel
theorem dX3_isUnder_21 : decode cX3_isUnder 21 = .ok (.if_icmp .ne 12, 3) := by decide +kernel
theorem dX3_isUnder_24 : decode cX3_isUnder 24 = .ok (.iload_n 1, 1) := by decide +kernel
theorem dX3_isUnder_25 : decode cX3_isUnder 25 = .ok (.iconst 2, 1) := by decide +kernel
theorem dX3_isUnder_26 : decode cX3_isUnder 26 = .ok (.if_icmp .ne 7, 3) := by decide +kernel
theorem dX3_isUnder_29 : decode cX3_isUnder 29 = .ok (.iconst 1, 1) := by decide +kernel
theorem dX3_isUnder_30 : decode cX3_isUnder 30 = .ok (.goto 4, 3) := by decide +kernel
theorem dX3_isUnder_33 : decode cX3_isUnder 33 = .ok (.iconst 0, 1) := by decide +kernel
theorem dX3_isUnder_34 : decode cX3_isUnder 34 = .ok (.ireturn, 1) := by decide +kernel
set_option maxRecDepth 20000 in
theorem ggX3_suppose_X0_become : GoodIn wsX3_suppose wsX0_become := goodIn_r _ [7, 8, 9, 10, 11, 12, 13, 14, 15, 16, 17, 27, 28, 29, 30, 31, 32] (by decide +kernel) (by decide +kernel)
set_option maxRecDepth 20000 in
theorem gX3_suppose_X0_become : GoodIn wsX3_suppose (wsV RX3 164 RX0 yX0_become wsX0_become) := goodIn_app (goodIn_of _ (by decide +kernel)) ggX3_suppose_X0_become
theorem dX3_suppose_0 : decode cX3_suppose 0 = .ok (.aload_n 0, 1) := by decide +kernel
theorem dX3_suppose_1 : decode cX3_suppose 1 = .ok (.getfield 19, 3) := by decide +kernel
theorem dX3_suppose_4 : decode cX3_suppose 4 = .ok (.aload_n 0, 1) := by decide +kernel
theorem dX3_suppose_5 : decode cX3_suppose 5 = .ok (.getfield 12, 3) := by decide +kernel
theorem dX3_suppose_8 : decode cX3_suppose 8 = .ok (.invokevirtual 164, 3) := by decide +kernel
theorem dX3_suppose_11 : decode cX3_suppose 11 = .ok (.return_, 1) := by decide +kernel
set_option maxRecDepth 20000 in
theorem ggX3_homeAsItIs_X3_suppose : GoodIn wsX3_homeAsItIs wsX3_suppose := goodIn_r _ [6, 1, 7, 8, 9, 10, 11, 12, 13, 14, 15, 16, 17, 18, 19, 20, 21, 22, 76, 77, 78, 79, 80, 81, 82, 83, 84, 85, 86, 87, 88, 89, 90] (by decide +kernel) (by decide +kernel)
set_option maxRecDepth 20000 in
theorem gX3_homeAsItIs_X3_suppose : GoodIn wsX3_homeAsItIs (wsV RX3 148 RX3 yX3_suppose wsX3_suppose) := goodIn_app (goodIn_of _ (by decide +kernel)) ggX3_homeAsItIs_X3_suppose
set_option maxRecDepth 20000 in
theorem ggX3_homeAsItIs_X0_goHome : GoodIn wsX3_homeAsItIs wsX0_goHome := goodIn_r _ [26, 27, 5, 28, 29, 30, 31, 11, 32, 21, 33, 34, 35, 36, 20, 37, 38, 39, 40, 13, 41, 42, 43, 44, 45, 46, 47, 48, 14, 49, 50, 51, 52, 15, 53, 54, 55, 56, 57, 58, 59, 60, 61, 62, 63, 64, 65, 66, 67, 22, 68, 69, 70, 71, 72, 73, 74, 75, 85, 86, 87, 88, 89, 90] (by decide +kernel) (by decide +kernel)
set_option maxRecDepth 20000 in
theorem gX3_homeAsItIs_X0_goHome : GoodIn wsX3_homeAsItIs (wsV RX3 157 RX0 yX0_goHome wsX0_goHome) := goodIn_app (goodIn_of _ (by decide +kernel)) ggX3_homeAsItIs_X0_goHome
theorem dX3_homeAsItIs_0 : decode cX3_homeAsItIs 0 = .ok (.aload_n 0, 1) := by decide +kernel
theorem dX3_homeAsItIs_1 : decode cX3_homeAsItIs 1 = .ok (.invokevirtual 148, 3) := by decide +kernel
theorem dX3_homeAsItIs_4 : decode cX3_homeAsItIs 4 = .ok (.aload_n 0, 1) := by decide +kernel
theorem dX3_homeAsItIs_5 : decode cX3_homeAsItIs 5 = .ok (.getfield 19, 3) := by decide +kernel
theorem dX3_homeAsItIs_8 : decode cX3_homeAsItIs 8 = .ok (.iload_n 1, 1) := by decide +kernel
theorem dX3_homeAsItIs_9 : decode cX3_homeAsItIs 9 = .ok (.invokevirtual 157, 3) := by decide +kernel
theorem dX3_homeAsItIs_12 : decode cX3_homeAsItIs 12 = .ok (.ireturn, 1) := by decide +kernel
set_option maxRecDepth 20000 in
theorem ggX3_homeWithKind_X3_suppose : GoodIn wsX3_homeWithKind wsX3_suppose := goodIn_r _ [7, 1, 8, 9, 10, 11, 12, 13, 14, 15, 16, 17, 18, 19, 20, 21, 22, 23, 77, 78, 79, 80, 81, 82, 83, 84, 85, 86, 87, 88, 89, 90, 91] (by decide +kernel) (by decide +kernel)
set_option maxRecDepth 20000 in
theorem gX3_homeWithKind_X3_suppose : GoodIn wsX3_homeWithKind (wsV RX3 148 RX3 yX3_suppose wsX3_suppose) := goodIn_app (goodIn_of _ (by decide +kernel)) ggX3_homeWithKind_X3_suppose
set_option maxRecDepth 20000 in
theorem ggX3_homeWithKind_X0_goHome : GoodIn wsX3_homeWithKind wsX0_goHome := goodIn_r _ [27, 28, 6, 29, 30, 31, 32, 12, 33, 22, 34, 35, 36, 37, 21, 38, 39, 40, 41, 14, 42, 43, 44, 45, 46, 47, 48, 49, 15, 50, 51, 52, 53, 16, 54, 55, 56, 57, 58, 59, 60, 61, 62, 63, 64, 65, 66, 67, 68, 23, 69, 70, 71, 72, 73, 74, 75, 76, 86, 87, 88, 89, 90, 91] (by decide +kernel) (by decide +kernel)
set_option maxRecDepth 20000 in
theorem gX3_homeWithKind_X0_goHome : GoodIn wsX3_homeWithKind (wsV RX3 157 RX0 yX0_goHome wsX0_goHome) := goodIn_app (goodIn_of _ (by decide +kernel)) ggX3_homeWithKind_X0_goHome
theorem dX3_homeWithKind_0 : decode cX3_homeWithKind 0 = .ok (.aload_n 0, 1) := by decide +kernel
theorem dX3_homeWithKind_1 : decode cX3_homeWithKind 1 = .ok (.invokevirtual 148, 3) := by decide +kernel
theorem dX3_homeWithKind_4 : decode cX3_homeWithKind 4 = .ok (.aload_n 0, 1) := by decide +kernel
theorem dX3_homeWithKind_5 : decode cX3_homeWithKind 5 = .ok (.getfield 19, 3) := by decide +kernel
theorem dX3_homeWithKind_8 : decode cX3_homeWithKind 8 = .ok (.getfield 58, 3) := by decide +kernel
theorem dX3_homeWithKind_11 : decode cX3_homeWithKind 11 = .ok (.iload_n 1, 1) := by decide +kernel
theorem dX3_homeWithKind_12 : decode cX3_homeWithKind 12 = .ok (.iload_n 2, 1) := by decide +kernel
theorem dX3_homeWithKind_13 : decode cX3_homeWithKind 13 = .ok (.iastore, 1) := by decide +kernel
theorem dX3_homeWithKind_14 : decode cX3_homeWithKind 14 = .ok (.aload_n 0, 1) := by decide +kernel
theorem dX3_homeWithKind_15 : decode cX3_homeWithKind 15 = .ok (.getfield 19, 3) := by decide +kernel
theorem dX3_homeWithKind_18 : decode cX3_homeWithKind 18 = .ok (.iload_n 3, 1) := by decide +kernel
theorem dX3_homeWithKind_19 : decode cX3_homeWithKind 19 = .ok (.invokevirtual 157, 3) := by decide +kernel
theorem dX3_homeWithKind_22 : decode cX3_homeWithKind 22 = .ok (.ireturn, 1) := by decide +kernel
set_option maxRecDepth 20000 in
theorem ggX3_findLearntIn_J7_fill_53178 : GoodIn wsX3_findLearntIn wsJ7_fill_53178 := goodIn_r _ [6] (by decide +kernel) (by decide +kernel)
set_option maxRecDepth 20000 in
theorem gX3_findLearntIn_J7_fill_53178 : GoodIn wsX3_findLearntIn (va_wsS RX3 236 yJ7_fill_53178 wsJ7_fill_53178) := goodIn_app (goodIn_of _ (by decide +kernel)) ggX3_findLearntIn_J7_fill_53178
set_option maxRecDepth 20000 in
theorem ggX3_findLearntIn_X3_suppose : GoodIn wsX3_findLearntIn wsX3_suppose := goodIn_r _ [11, 2, 12, 13, 14, 15, 16, 17, 18, 19, 20, 21, 22, 23, 24, 25, 26, 27, 75, 76, 77, 78, 79, 80, 81, 82, 83, 84, 85, 86, 87, 88, 89] (by decide +kernel) (by decide +kernel)
set_option maxRecDepth 20000 in
theorem gX3_findLearntIn_X3_suppose : GoodIn wsX3_findLearntIn (wsV RX3 148 RX3 yX3_suppose wsX3_suppose) := goodIn_app (goodIn_of _ (by decide +kernel)) ggX3_findLearntIn_X3_suppose
set_option maxRecDepth 20000 in
theorem ggX3_findLearntIn_X0_knows : GoodIn wsX3_findLearntIn wsX0_knows := goodIn_r _ [31, 26, 84, 85, 86, 87, 88, 89] (by decide +kernel) (by decide +kernel)
set_option maxRecDepth 20000 in
theorem gX3_findLearntIn_X0_knows : GoodIn wsX3_findLearntIn (wsV RX3 80 RX0 yX0_knows wsX0_knows) := goodIn_app (goodIn_of _ (by decide +kernel)) ggX3_findLearntIn_X0_knows
set_option maxRecDepth 20000 in
theorem ggX3_findLearntIn_X0_passYear : GoodIn wsX3_findLearntIn wsX0_passYear := goodIn_r _ [35, 25, 36, 37, 38, 39, 18, 40, 41, 42, 16, 43, 26, 44, 45, 46, 47, 19, 48, 49, 50, 51, 20, 52, 53, 54, 55, 56, 57, 58, 59, 60, 61, 62, 63, 64, 65, 66, 27, 67, 68, 69, 70, 71, 72, 73, 74, 84, 85, 86, 87, 88, 89] (by decide +kernel) (by decide +kernel)
set_option maxRecDepth 20000 in
theorem gX3_findLearntIn_X0_passYear : GoodIn wsX3_findLearntIn (wsV RX3 242 RX0 yX0_passYear wsX0_passYear) := goodIn_app (goodIn_of _ (by decide +kernel)) ggX3_findLearntIn_X0_passYear
theorem dX3_findLearntIn_0 : decode cX3_findLearntIn 0 = .ok (.aload_n 0, 1) := by decide +kernel
theorem dX3_findLearntIn_1 : decode cX3_findLearntIn 1 = .ok (.getfield 25, 3) := by decide +kernel
theorem dX3_findLearntIn_4 : decode cX3_findLearntIn 4 = .ok (.sipush 201, 3) := by decide +kernel
theorem dX3_findLearntIn_7 : decode cX3_findLearntIn 7 = .ok (.invokestatic 236, 3) := by decide +kernel
theorem dX3_findLearntIn_10 : decode cX3_findLearntIn 10 = .ok (.aload_n 0, 1) := by decide +kernel
theorem dX3_findLearntIn_11 : decode cX3_findLearntIn 11 = .ok (.invokevirtual 148, 3) := by decide +kernel
theorem dX3_findLearntIn_14 : decode cX3_findLearntIn 14 = .ok (.iconst 0, 1) := by decide +kernel
theorem dX3_findLearntIn_15 : decode cX3_findLearntIn 15 = .ok (.istore_n 2, 1) := by decide +kernel
theorem dX3_findLearntIn_16 : decode cX3_findLearntIn 16 = .ok (.iload_n 2, 1) := by decide +kernel
theorem dX3_findLearntIn_17 : decode cX3_findLearntIn 17 = .ok (.sipush 200, 3) := by decide +kernel
theorem dX3_findLearntIn_20 : decode cX3_findLearntIn 20 = .ok (.if_icmp .gt 64, 3) := by decide +kernel
theorem dX3_findLearntIn_23 : decode cX3_findLearntIn 23 = .ok (.iconst 0, 1) := by decide +kernel
theorem dX3_findLearntIn_24 : decode cX3_findLearntIn 24 = .ok (.istore_n 3, 1) := by decide +kernel
theorem dX3_findLearntIn_25 : decode cX3_findLearntIn 25 = .ok (.iload_n 3, 1) := by decide +kernel
theorem dX3_findLearntIn_26 : decode cX3_findLearntIn 26 = .ok (.bipush 12, 2) := by decide +kernel
theorem dX3_findLearntIn_28 : decode cX3_findLearntIn 28 = .ok (.if_icmp .ge 40, 3) := by decide +kernel
theorem dX3_findLearntIn_31 : decode cX3_findLearntIn 31 = .ok (.aload_n 0, 1) := by decide +kernel
theorem dX3_findLearntIn_32 : decode cX3_findLearntIn 32 = .ok (.getfield 25, 3) := by decide +kernel
theorem dX3_findLearntIn_35 : decode cX3_findLearntIn 35 = .ok (.iload_n 3, 1) := by decide +kernel
theorem dX3_findLearntIn_36 : decode cX3_findLearntIn 36 = .ok (.iaload, 1) := by decide +kernel
theorem dX3_findLearntIn_37 : decode cX3_findLearntIn 37 = .ok (.sipush 201, 3) := by decide +kernel
theorem dX3_findLearntIn_40 : decode cX3_findLearntIn 40 = .ok (.if_icmp .ne 22, 3) := by decide +kernel
theorem dX3_findLearntIn_43 : decode cX3_findLearntIn 43 = .ok (.aload_n 0, 1) := by decide +kernel
theorem dX3_findLearntIn_44 : decode cX3_findLearntIn 44 = .ok (.getfield 19, 3) := by decide +kernel
theorem dX3_findLearntIn_47 : decode cX3_findLearntIn 47 = .ok (.iload_n 3, 1) := by decide +kernel
theorem dX3_findLearntIn_48 : decode cX3_findLearntIn 48 = .ok (.iload_n 1, 1) := by decide +kernel
theorem dX3_findLearntIn_49 : decode cX3_findLearntIn 49 = .ok (.invokevirtual 80, 3) := by decide +kernel
theorem dX3_findLearntIn_52 : decode cX3_findLearntIn 52 = .ok (.ifCond .eq 10, 3) := by decide +kernel
theorem dX3_findLearntIn_55 : decode cX3_findLearntIn 55 = .ok (.aload_n 0, 1) := by decide +kernel
theorem dX3_findLearntIn_56 : decode cX3_findLearntIn 56 = .ok (.getfield 25, 3) := by decide +kernel
theorem dX3_findLearntIn_59 : decode cX3_findLearntIn 59 = .ok (.iload_n 3, 1) := by decide +kernel
theorem dX3_findLearntIn_60 : decode cX3_findLearntIn 60 = .ok (.iload_n 2, 1) := by decide +kernel
theorem dX3_findLearntIn_61 : decode cX3_findLearntIn 61 = .ok (.iastore, 1) := by decide +kernel
theorem dX3_findLearntIn_62 : decode cX3_findLearntIn 62 = .ok (.iinc 3 1, 3) := by decide +kernel
theorem dX3_findLearntIn_65 : decode cX3_findLearntIn 65 = .ok (.goto (-40), 3) := by decide +kernel
theorem dX3_findLearntIn_68 : decode cX3_findLearntIn 68 = .ok (.aload_n 0, 1) := by decide +kernel
theorem dX3_findLearntIn_69 : decode cX3_findLearntIn 69 = .ok (.getfield 19, 3) := by decide +kernel
theorem dX3_findLearntIn_72 : decode cX3_findLearntIn 72 = .ok (.iconst 1, 1) := by decide +kernel
theorem dX3_findLearntIn_73 : decode cX3_findLearntIn 73 = .ok (.iload_n 1, 1) := by decide +kernel
theorem dX3_findLearntIn_74 : decode cX3_findLearntIn 74 = .ok (.ishl, 1) := by decide +kernel
theorem dX3_findLearntIn_75 : decode cX3_findLearntIn 75 = .ok (.invokevirtual 242, 3) := by decide +kernel
theorem dX3_findLearntIn_78 : decode cX3_findLearntIn 78 = .ok (.iinc 2 1, 3) := by decide +kernel
theorem dX3_findLearntIn_81 : decode cX3_findLearntIn 81 = .ok (.goto (-65), 3) := by decide +kernel
theorem dX3_findLearntIn_84 : decode cX3_findLearntIn 84 = .ok (.return_, 1) := by decide +kernel
set_option maxRecDepth 20000 in
theorem ggX3_goesAsWritten_X0_passYears : GoodIn wsX3_goesAsWritten wsX0_passYears := goodIn_r _ [9, 10, 11, 12, 8, 13, 14, 15, 16, 17, 18, 19, 20, 21, 22, 23, 24, 25, 26, 27, 28, 29, 30, 31, 32, 33, 34, 35, 36, 37, 38, 39, 40, 41, 42, 43, 44, 45, 46, 47, 48, 49, 50, 51, 52, 53, 54, 55, 56, 57, 58, 71, 72, 73, 74, 75, 76] (by decide +kernel) (by decide +kernel)
set_option maxRecDepth 20000 in
theorem gX3_goesAsWritten_X0_passYears : GoodIn wsX3_goesAsWritten (wsV RX3 125 RX0 yX0_passYears wsX0_passYears) := goodIn_app (goodIn_of _ (by decide +kernel)) ggX3_goesAsWritten_X0_passYears
theorem dX3_goesAsWritten_0 : decode cX3_goesAsWritten 0 = .ok (.iconst 0, 1) := by decide +kernel
theorem dX3_goesAsWritten_1 : decode cX3_goesAsWritten 1 = .ok (.istore_n 3, 1) := by decide +kernel
theorem dX3_goesAsWritten_2 : decode cX3_goesAsWritten 2 = .ok (.iload_n 3, 1) := by decide +kernel
theorem dX3_goesAsWritten_3 : decode cX3_goesAsWritten 3 = .ok (.aload_n 1, 1) := by decide +kernel
theorem dX3_goesAsWritten_4 : decode cX3_goesAsWritten 4 = .ok (.getfield 191, 3) := by decide +kernel
theorem dX3_goesAsWritten_7 : decode cX3_goesAsWritten 7 = .ok (.if_icmp .ge 39, 3) := by decide +kernel
theorem dX3_goesAsWritten_10 : decode cX3_goesAsWritten 10 = .ok (.aload_n 1, 1) := by decide +kernel
theorem dX3_goesAsWritten_11 : decode cX3_goesAsWritten 11 = .ok (.getfield 198, 3) := by decide +kernel
theorem dX3_goesAsWritten_14 : decode cX3_goesAsWritten 14 = .ok (.iload_n 3, 1) := by decide +kernel
theorem dX3_goesAsWritten_15 : decode cX3_goesAsWritten 15 = .ok (.laload, 1) := by decide +kernel
theorem dX3_goesAsWritten_16 : decode cX3_goesAsWritten 16 = .ok (.aload_n 0, 1) := by decide +kernel
theorem dX3_goesAsWritten_17 : decode cX3_goesAsWritten 17 = .ok (.getfield 19, 3) := by decide +kernel
theorem dX3_goesAsWritten_20 : decode cX3_goesAsWritten 20 = .ok (.getfield 74, 3) := by decide +kernel
theorem dX3_goesAsWritten_23 : decode cX3_goesAsWritten 23 = .ok (.iload_n 2, 1) := by decide +kernel
theorem dX3_goesAsWritten_24 : decode cX3_goesAsWritten 24 = .ok (.iaload, 1) := by decide +kernel
theorem dX3_goesAsWritten_25 : decode cX3_goesAsWritten 25 = .ok (.i2l, 1) := by decide +kernel
theorem dX3_goesAsWritten_26 : decode cX3_goesAsWritten 26 = .ok (.lcmp, 1) := by decide +kernel
theorem dX3_goesAsWritten_27 : decode cX3_goesAsWritten 27 = .ok (.ifCond .eq 5, 3) := by decide +kernel
theorem dX3_goesAsWritten_30 : decode cX3_goesAsWritten 30 = .ok (.iconst 0, 1) := by decide +kernel
theorem dX3_goesAsWritten_31 : decode cX3_goesAsWritten 31 = .ok (.ireturn, 1) := by decide +kernel
theorem dX3_goesAsWritten_32 : decode cX3_goesAsWritten 32 = .ok (.aload_n 0, 1) := by decide +kernel
theorem dX3_goesAsWritten_33 : decode cX3_goesAsWritten 33 = .ok (.getfield 19, 3) := by decide +kernel
theorem dX3_goesAsWritten_36 : decode cX3_goesAsWritten 36 = .ok (.iconst 1, 1) := by decide +kernel
theorem dX3_goesAsWritten_37 : decode cX3_goesAsWritten 37 = .ok (.invokevirtual 125, 3) := by decide +kernel
theorem dX3_goesAsWritten_40 : decode cX3_goesAsWritten 40 = .ok (.iinc 3 1, 3) := by decide +kernel
theorem dX3_goesAsWritten_43 : decode cX3_goesAsWritten 43 = .ok (.goto (-41), 3) := by decide +kernel
theorem dX3_goesAsWritten_46 : decode cX3_goesAsWritten 46 = .ok (.iconst 1, 1) := by decide +kernel
theorem dX3_goesAsWritten_47 : decode cX3_goesAsWritten 47 = .ok (.ireturn, 1) := by decide +kernel
