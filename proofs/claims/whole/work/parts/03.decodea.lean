theorem dX0_init_0 : decode cX0_init 0 = .ok (.aload_n 0, 1) := by decide +kernel
theorem dX0_init_1 : decode cX0_init 1 = .ok (.invokespecial 3, 3) := by decide +kernel
theorem dX0_init_4 : decode cX0_init 4 = .ok (.aload_n 0, 1) := by decide +kernel
theorem dX0_init_5 : decode cX0_init 5 = .ok (.iconst 3, 1) := by decide +kernel
theorem dX0_init_6 : decode cX0_init 6 = .ok (.newarray .int, 2) := by decide +kernel
theorem dX0_init_8 : decode cX0_init 8 = .ok (.putfield 11, 3) := by decide +kernel
theorem dX0_init_11 : decode cX0_init 11 = .ok (.aload_n 0, 1) := by decide +kernel
theorem dX0_init_12 : decode cX0_init 12 = .ok (.iconst 3, 1) := by decide +kernel
theorem dX0_init_13 : decode cX0_init 13 = .ok (.newarray .int, 2) := by decide +kernel
theorem dX0_init_15 : decode cX0_init 15 = .ok (.putfield 15, 3) := by decide +kernel
theorem dX0_init_18 : decode cX0_init 18 = .ok (.return_, 1) := by decide +kernel
set_option maxRecDepth 20000 in
theorem ggX0_countPairs_X0_begin : GoodIn wsX0_countPairs wsX0_begin := goodIn_r _ [6, 7, 1, 8, 28, 29, 30, 31, 32] (by decide +kernel) (by decide +kernel)
set_option maxRecDepth 20000 in
theorem gX0_countPairs_X0_begin : GoodIn wsX0_countPairs (wsV RX0 18 RX0 yX0_begin wsX0_begin) := goodIn_app (goodIn_of _ (by decide +kernel)) ggX0_countPairs_X0_begin
set_option maxRecDepth 20000 in
theorem ggX0_countPairs_X0_seekPairs : GoodIn wsX0_countPairs wsX0_seekPairs := goodIn_r _ [12, 13, 14, 15, 16, 17, 18, 8, 19, 20, 21, 5, 22, 1, 7, 23, 24, 25, 26, 27, 28, 29, 30, 31, 32] (by decide +kernel) (by decide +kernel)
set_option maxRecDepth 20000 in
theorem gX0_countPairs_X0_seekPairs : GoodIn wsX0_countPairs (wsV RX0 22 RX0 yX0_seekPairs wsX0_seekPairs) := goodIn_app (goodIn_of _ (by decide +kernel)) ggX0_countPairs_X0_seekPairs
theorem dX0_countPairs_0 : decode cX0_countPairs 0 = .ok (.aload_n 0, 1) := by decide +kernel
theorem dX0_countPairs_1 : decode cX0_countPairs 1 = .ok (.iconst (-1), 1) := by decide +kernel
theorem dX0_countPairs_2 : decode cX0_countPairs 2 = .ok (.invokevirtual 18, 3) := by decide +kernel
theorem dX0_countPairs_5 : decode cX0_countPairs 5 = .ok (.aload_n 0, 1) := by decide +kernel
theorem dX0_countPairs_6 : decode cX0_countPairs 6 = .ok (.iconst 0, 1) := by decide +kernel
theorem dX0_countPairs_7 : decode cX0_countPairs 7 = .ok (.lconst 1, 1) := by decide +kernel
theorem dX0_countPairs_8 : decode cX0_countPairs 8 = .ok (.iload_n 1, 1) := by decide +kernel
theorem dX0_countPairs_9 : decode cX0_countPairs 9 = .ok (.i2l, 1) := by decide +kernel
theorem dX0_countPairs_10 : decode cX0_countPairs 10 = .ok (.iload_n 2, 1) := by decide +kernel
theorem dX0_countPairs_11 : decode cX0_countPairs 11 = .ok (.i2l, 1) := by decide +kernel
theorem dX0_countPairs_12 : decode cX0_countPairs 12 = .ok (.invokevirtual 22, 3) := by decide +kernel
theorem dX0_countPairs_15 : decode cX0_countPairs 15 = .ok (.aload_n 0, 1) := by decide +kernel
theorem dX0_countPairs_16 : decode cX0_countPairs 16 = .ok (.getfield 26, 3) := by decide +kernel
theorem dX0_countPairs_19 : decode cX0_countPairs 19 = .ok (.ireturn, 1) := by decide +kernel
set_option maxRecDepth 20000 in
theorem ggX0_partOfPair_X0_begin : GoodIn wsX0_partOfPair wsX0_begin := goodIn_r _ [5, 6, 7, 8, 32, 33, 34, 35, 36] (by decide +kernel) (by decide +kernel)
set_option maxRecDepth 20000 in
theorem gX0_partOfPair_X0_begin : GoodIn wsX0_partOfPair (wsV RX0 18 RX0 yX0_begin wsX0_begin) := goodIn_app (goodIn_of _ (by decide +kernel)) ggX0_partOfPair_X0_begin
set_option maxRecDepth 20000 in
theorem ggX0_partOfPair_X0_seekPairs : GoodIn wsX0_partOfPair wsX0_seekPairs := goodIn_r _ [12, 13, 14, 15, 16, 17, 18, 8, 19, 20, 21, 4, 22, 7, 6, 23, 24, 25, 26, 27, 32, 33, 34, 35, 36] (by decide +kernel) (by decide +kernel)
set_option maxRecDepth 20000 in
theorem gX0_partOfPair_X0_seekPairs : GoodIn wsX0_partOfPair (wsV RX0 22 RX0 yX0_seekPairs wsX0_seekPairs) := goodIn_app (goodIn_of _ (by decide +kernel)) ggX0_partOfPair_X0_seekPairs
set_option maxRecDepth 20000 in
theorem ggX0_partOfPair_X0_keptPart : GoodIn wsX0_partOfPair wsX0_keptPart := goodIn_r _ [31, 8, 23, 32, 33, 34, 35, 36] (by decide +kernel) (by decide +kernel)
set_option maxRecDepth 20000 in
theorem gX0_partOfPair_X0_keptPart : GoodIn wsX0_partOfPair (wsV RX0 30 RX0 yX0_keptPart wsX0_keptPart) := goodIn_app (goodIn_of _ (by decide +kernel)) ggX0_partOfPair_X0_keptPart
theorem dX0_partOfPair_0 : decode cX0_partOfPair 0 = .ok (.aload_n 0, 1) := by decide +kernel
theorem dX0_partOfPair_1 : decode cX0_partOfPair 1 = .ok (.iload_n 3, 1) := by decide +kernel
theorem dX0_partOfPair_2 : decode cX0_partOfPair 2 = .ok (.invokevirtual 18, 3) := by decide +kernel
theorem dX0_partOfPair_5 : decode cX0_partOfPair 5 = .ok (.aload_n 0, 1) := by decide +kernel
theorem dX0_partOfPair_6 : decode cX0_partOfPair 6 = .ok (.iconst 0, 1) := by decide +kernel
theorem dX0_partOfPair_7 : decode cX0_partOfPair 7 = .ok (.lconst 1, 1) := by decide +kernel
theorem dX0_partOfPair_8 : decode cX0_partOfPair 8 = .ok (.iload_n 1, 1) := by decide +kernel
theorem dX0_partOfPair_9 : decode cX0_partOfPair 9 = .ok (.i2l, 1) := by decide +kernel
theorem dX0_partOfPair_10 : decode cX0_partOfPair 10 = .ok (.iload_n 2, 1) := by decide +kernel
theorem dX0_partOfPair_11 : decode cX0_partOfPair 11 = .ok (.i2l, 1) := by decide +kernel
theorem dX0_partOfPair_12 : decode cX0_partOfPair 12 = .ok (.invokevirtual 22, 3) := by decide +kernel
theorem dX0_partOfPair_15 : decode cX0_partOfPair 15 = .ok (.aload_n 0, 1) := by decide +kernel
theorem dX0_partOfPair_16 : decode cX0_partOfPair 16 = .ok (.iload 4, 2) := by decide +kernel
theorem dX0_partOfPair_18 : decode cX0_partOfPair 18 = .ok (.invokevirtual 30, 3) := by decide +kernel
theorem dX0_partOfPair_21 : decode cX0_partOfPair 21 = .ok (.ireturn, 1) := by decide +kernel
set_option maxRecDepth 20000 in
theorem ggX0_countTriples_X0_begin : GoodIn wsX0_countTriples wsX0_begin := goodIn_r _ [6, 7, 1, 8, 33, 34, 35, 36, 37] (by decide +kernel) (by decide +kernel)
set_option maxRecDepth 20000 in
theorem gX0_countTriples_X0_begin : GoodIn wsX0_countTriples (wsV RX0 18 RX0 yX0_begin wsX0_begin) := goodIn_app (goodIn_of _ (by decide +kernel)) ggX0_countTriples_X0_begin
set_option maxRecDepth 20000 in
theorem ggX0_countTriples_X0_seekTriples : GoodIn wsX0_countTriples wsX0_seekTriples := goodIn_r _ [12, 13, 8, 14, 15, 16, 17, 5, 18, 19, 20, 21, 22, 23, 24, 25, 26, 27, 1, 7, 28, 29, 30, 31, 32, 33, 34, 35, 36, 37] (by decide +kernel) (by decide +kernel)
set_option maxRecDepth 20000 in
theorem gX0_countTriples_X0_seekTriples : GoodIn wsX0_countTriples (wsV RX0 34 RX0 yX0_seekTriples wsX0_seekTriples) := goodIn_app (goodIn_of _ (by decide +kernel)) ggX0_countTriples_X0_seekTriples
theorem dX0_countTriples_0 : decode cX0_countTriples 0 = .ok (.aload_n 0, 1) := by decide +kernel
theorem dX0_countTriples_1 : decode cX0_countTriples 1 = .ok (.iconst (-1), 1) := by decide +kernel
theorem dX0_countTriples_2 : decode cX0_countTriples 2 = .ok (.invokevirtual 18, 3) := by decide +kernel
theorem dX0_countTriples_5 : decode cX0_countTriples 5 = .ok (.aload_n 0, 1) := by decide +kernel
theorem dX0_countTriples_6 : decode cX0_countTriples 6 = .ok (.iload_n 1, 1) := by decide +kernel
theorem dX0_countTriples_7 : decode cX0_countTriples 7 = .ok (.i2l, 1) := by decide +kernel
theorem dX0_countTriples_8 : decode cX0_countTriples 8 = .ok (.iload_n 2, 1) := by decide +kernel
theorem dX0_countTriples_9 : decode cX0_countTriples 9 = .ok (.i2l, 1) := by decide +kernel
theorem dX0_countTriples_10 : decode cX0_countTriples 10 = .ok (.invokevirtual 34, 3) := by decide +kernel
theorem dX0_countTriples_13 : decode cX0_countTriples 13 = .ok (.aload_n 0, 1) := by decide +kernel
theorem dX0_countTriples_14 : decode cX0_countTriples 14 = .ok (.getfield 26, 3) := by decide +kernel
theorem dX0_countTriples_17 : decode cX0_countTriples 17 = .ok (.ireturn, 1) := by decide +kernel
set_option maxRecDepth 20000 in
theorem ggX0_partOfTriple_X0_begin : GoodIn wsX0_partOfTriple wsX0_begin := goodIn_r _ [5, 6, 7, 8, 37, 38, 39, 40, 41] (by decide +kernel) (by decide +kernel)
set_option maxRecDepth 20000 in
theorem gX0_partOfTriple_X0_begin : GoodIn wsX0_partOfTriple (wsV RX0 18 RX0 yX0_begin wsX0_begin) := goodIn_app (goodIn_of _ (by decide +kernel)) ggX0_partOfTriple_X0_begin
set_option maxRecDepth 20000 in
theorem ggX0_partOfTriple_X0_seekTriples : GoodIn wsX0_partOfTriple wsX0_seekTriples := goodIn_r _ [12, 13, 8, 14, 15, 16, 17, 4, 18, 19, 20, 21, 22, 23, 24, 25, 26, 27, 7, 6, 28, 29, 30, 31, 32, 37, 38, 39, 40, 41] (by decide +kernel) (by decide +kernel)
set_option maxRecDepth 20000 in
theorem gX0_partOfTriple_X0_seekTriples : GoodIn wsX0_partOfTriple (wsV RX0 34 RX0 yX0_seekTriples wsX0_seekTriples) := goodIn_app (goodIn_of _ (by decide +kernel)) ggX0_partOfTriple_X0_seekTriples
set_option maxRecDepth 20000 in
theorem ggX0_partOfTriple_X0_keptPart : GoodIn wsX0_partOfTriple wsX0_keptPart := goodIn_r _ [36, 8, 28, 37, 38, 39, 40, 41] (by decide +kernel) (by decide +kernel)
set_option maxRecDepth 20000 in
theorem gX0_partOfTriple_X0_keptPart : GoodIn wsX0_partOfTriple (wsV RX0 30 RX0 yX0_keptPart wsX0_keptPart) := goodIn_app (goodIn_of _ (by decide +kernel)) ggX0_partOfTriple_X0_keptPart
theorem dX0_partOfTriple_0 : decode cX0_partOfTriple 0 = .ok (.aload_n 0, 1) := by decide +kernel
theorem dX0_partOfTriple_1 : decode cX0_partOfTriple 1 = .ok (.iload_n 3, 1) := by decide +kernel
theorem dX0_partOfTriple_2 : decode cX0_partOfTriple 2 = .ok (.invokevirtual 18, 3) := by decide +kernel
theorem dX0_partOfTriple_5 : decode cX0_partOfTriple 5 = .ok (.aload_n 0, 1) := by decide +kernel
theorem dX0_partOfTriple_6 : decode cX0_partOfTriple 6 = .ok (.iload_n 1, 1) := by decide +kernel
theorem dX0_partOfTriple_7 : decode cX0_partOfTriple 7 = .ok (.i2l, 1) := by decide +kernel
theorem dX0_partOfTriple_8 : decode cX0_partOfTriple 8 = .ok (.iload_n 2, 1) := by decide +kernel
theorem dX0_partOfTriple_9 : decode cX0_partOfTriple 9 = .ok (.i2l, 1) := by decide +kernel
theorem dX0_partOfTriple_10 : decode cX0_partOfTriple 10 = .ok (.invokevirtual 34, 3) := by decide +kernel
theorem dX0_partOfTriple_13 : decode cX0_partOfTriple 13 = .ok (.aload_n 0, 1) := by decide +kernel
theorem dX0_partOfTriple_14 : decode cX0_partOfTriple 14 = .ok (.iload 4, 2) := by decide +kernel
theorem dX0_partOfTriple_16 : decode cX0_partOfTriple 16 = .ok (.invokevirtual 30, 3) := by decide +kernel
theorem dX0_partOfTriple_19 : decode cX0_partOfTriple 19 = .ok (.ireturn, 1) := by decide +kernel
theorem dX0_begin_0 : decode cX0_begin 0 = .ok (.aload_n 0, 1) := by decide +kernel
theorem dX0_begin_1 : decode cX0_begin 1 = .ok (.iload_n 1, 1) := by decide +kernel
theorem dX0_begin_2 : decode cX0_begin 2 = .ok (.putfield 38, 3) := by decide +kernel
theorem dX0_begin_5 : decode cX0_begin 5 = .ok (.aload_n 0, 1) := by decide +kernel
theorem dX0_begin_6 : decode cX0_begin 6 = .ok (.iconst 0, 1) := by decide +kernel
theorem dX0_begin_7 : decode cX0_begin 7 = .ok (.putfield 26, 3) := by decide +kernel
theorem dX0_begin_10 : decode cX0_begin 10 = .ok (.aload_n 0, 1) := by decide +kernel
theorem dX0_begin_11 : decode cX0_begin 11 = .ok (.iconst 0, 1) := by decide +kernel
theorem dX0_begin_12 : decode cX0_begin 12 = .ok (.putfield 41, 3) := by decide +kernel
theorem dX0_begin_15 : decode cX0_begin 15 = .ok (.return_, 1) := by decide +kernel
theorem dX0_keptPart_0 : decode cX0_keptPart 0 = .ok (.aload_n 0, 1) := by decide +kernel
theorem dX0_keptPart_1 : decode cX0_keptPart 1 = .ok (.getfield 41, 3) := by decide +kernel
theorem dX0_keptPart_4 : decode cX0_keptPart 4 = .ok (.ifCond .eq 25, 3) := by decide +kernel
theorem dX0_keptPart_7 : decode cX0_keptPart 7 = .ok (.iload_n 1, 1) := by decide +kernel
theorem dX0_keptPart_8 : decode cX0_keptPart 8 = .ok (.ifCond .lt 21, 3) := by decide +kernel
theorem dX0_keptPart_11 : decode cX0_keptPart 11 = .ok (.iload_n 1, 1) := by decide +kernel
theorem dX0_keptPart_12 : decode cX0_keptPart 12 = .ok (.aload_n 0, 1) := by decide +kernel
theorem dX0_keptPart_13 : decode cX0_keptPart 13 = .ok (.getfield 15, 3) := by decide +kernel
theorem dX0_keptPart_16 : decode cX0_keptPart 16 = .ok (.arraylength, 1) := by decide +kernel
theorem dX0_keptPart_17 : decode cX0_keptPart 17 = .ok (.if_icmp .ge 12, 3) := by decide +kernel
theorem dX0_keptPart_20 : decode cX0_keptPart 20 = .ok (.aload_n 0, 1) := by decide +kernel
theorem dX0_keptPart_21 : decode cX0_keptPart 21 = .ok (.getfield 15, 3) := by decide +kernel
theorem dX0_keptPart_24 : decode cX0_keptPart 24 = .ok (.iload_n 1, 1) := by decide +kernel
theorem dX0_keptPart_25 : decode cX0_keptPart 25 = .ok (.iaload, 1) := by decide +kernel
theorem dX0_keptPart_26 : decode cX0_keptPart 26 = .ok (.goto 4, 3) := by decide +kernel
theorem dX0_keptPart_29 : decode cX0_keptPart 29 = .ok (.iconst (-1), 1) := by decide +kernel
theorem dX0_keptPart_30 : decode cX0_keptPart 30 = .ok (.ireturn, 1) := by decide +kernel
set_option maxRecDepth 20000 in
theorem ggX0_seekTriples_X0_seekPairs : GoodIn wsX0_seekTriples wsX0_seekPairs := goodIn_r _ [8, 3, 9, 10, 11, 12, 13, 2, 14, 15, 16, 7, 17, 18, 19, 20, 21, 22, 23, 24, 25, 26, 27, 28, 29] (by decide +kernel) (by decide +kernel)
set_option maxRecDepth 20000 in
theorem gX0_seekTriples_X0_seekPairs : GoodIn wsX0_seekTriples (wsV RX0 22 RX0 yX0_seekPairs wsX0_seekPairs) := goodIn_app (goodIn_of _ (by decide +kernel)) ggX0_seekTriples_X0_seekPairs
theorem dX0_seekTriples_0 : decode cX0_seekTriples 0 = .ok (.lload_n 1, 1) := by decide +kernel
theorem dX0_seekTriples_1 : decode cX0_seekTriples 1 = .ok (.lconst 0, 1) := by decide +kernel
theorem dX0_seekTriples_2 : decode cX0_seekTriples 2 = .ok (.lcmp, 1) := by decide +kernel
theorem dX0_seekTriples_3 : decode cX0_seekTriples 3 = .ok (.ifCond .gt 4, 3) := by decide +kernel
theorem dX0_seekTriples_6 : decode cX0_seekTriples 6 = .ok (.return_, 1) := by decide +kernel
theorem dX0_seekTriples_7 : decode cX0_seekTriples 7 = .ok (.ldc2_w 45, 3) := by decide +kernel
theorem dX0_seekTriples_10 : decode cX0_seekTriples 10 = .ok (.lload_n 3, 1) := by decide +kernel
theorem dX0_seekTriples_11 : decode cX0_seekTriples 11 = .ok (.lmul, 1) := by decide +kernel
theorem dX0_seekTriples_12 : decode cX0_seekTriples 12 = .ok (.lload_n 1, 1) := by decide +kernel
theorem dX0_seekTriples_13 : decode cX0_seekTriples 13 = .ok (.ldiv, 1) := by decide +kernel
theorem dX0_seekTriples_14 : decode cX0_seekTriples 14 = .ok (.lstore 5, 2) := by decide +kernel
theorem dX0_seekTriples_16 : decode cX0_seekTriples 16 = .ok (.lload_n 3, 1) := by decide +kernel
theorem dX0_seekTriples_17 : decode cX0_seekTriples 17 = .ok (.lload_n 1, 1) := by decide +kernel
theorem dX0_seekTriples_18 : decode cX0_seekTriples 18 = .ok (.ldiv, 1) := by decide +kernel
theorem dX0_seekTriples_19 : decode cX0_seekTriples 19 = .ok (.lconst 1, 1) := by decide +kernel
theorem dX0_seekTriples_20 : decode cX0_seekTriples 20 = .ok (.ladd, 1) := by decide +kernel
theorem dX0_seekTriples_21 : decode cX0_seekTriples 21 = .ok (.lstore 7, 2) := by decide +kernel
theorem dX0_seekTriples_23 : decode cX0_seekTriples 23 = .ok (.lload 7, 2) := by decide +kernel
theorem dX0_seekTriples_25 : decode cX0_seekTriples 25 = .ok (.lload 5, 2) := by decide +kernel
theorem dX0_seekTriples_27 : decode cX0_seekTriples 27 = .ok (.lcmp, 1) := by decide +kernel
theorem dX0_seekTriples_28 : decode cX0_seekTriples 28 = .ok (.ifCond .gt 45, 3) := by decide +kernel
theorem dX0_seekTriples_31 : decode cX0_seekTriples 31 = .ok (.aload_n 0, 1) := by decide +kernel
theorem dX0_seekTriples_32 : decode cX0_seekTriples 32 = .ok (.getfield 41, 3) := by decide +kernel
theorem dX0_seekTriples_35 : decode cX0_seekTriples 35 = .ok (.ifCond .ne 38, 3) := by decide +kernel
theorem dX0_seekTriples_38 : decode cX0_seekTriples 38 = .ok (.aload_n 0, 1) := by decide +kernel
theorem dX0_seekTriples_39 : decode cX0_seekTriples 39 = .ok (.getfield 11, 3) := by decide +kernel
theorem dX0_seekTriples_42 : decode cX0_seekTriples 42 = .ok (.iconst 0, 1) := by decide +kernel
theorem dX0_seekTriples_43 : decode cX0_seekTriples 43 = .ok (.lload 7, 2) := by decide +kernel
theorem dX0_seekTriples_45 : decode cX0_seekTriples 45 = .ok (.l2i, 1) := by decide +kernel
theorem dX0_seekTriples_46 : decode cX0_seekTriples 46 = .ok (.iastore, 1) := by decide +kernel
theorem dX0_seekTriples_47 : decode cX0_seekTriples 47 = .ok (.aload_n 0, 1) := by decide +kernel
theorem dX0_seekTriples_48 : decode cX0_seekTriples 48 = .ok (.iconst 1, 1) := by decide +kernel
theorem dX0_seekTriples_49 : decode cX0_seekTriples 49 = .ok (.lload 7, 2) := by decide +kernel
theorem dX0_seekTriples_51 : decode cX0_seekTriples 51 = .ok (.lload_n 1, 1) := by decide +kernel
theorem dX0_seekTriples_52 : decode cX0_seekTriples 52 = .ok (.lload 7, 2) := by decide +kernel
theorem dX0_seekTriples_54 : decode cX0_seekTriples 54 = .ok (.lmul, 1) := by decide +kernel
theorem dX0_seekTriples_55 : decode cX0_seekTriples 55 = .ok (.lload_n 3, 1) := by decide +kernel
theorem dX0_seekTriples_56 : decode cX0_seekTriples 56 = .ok (.lsub, 1) := by decide +kernel
theorem dX0_seekTriples_57 : decode cX0_seekTriples 57 = .ok (.lload_n 3, 1) := by decide +kernel
theorem dX0_seekTriples_58 : decode cX0_seekTriples 58 = .ok (.lload 7, 2) := by decide +kernel
theorem dX0_seekTriples_60 : decode cX0_seekTriples 60 = .ok (.lmul, 1) := by decide +kernel
theorem dX0_seekTriples_61 : decode cX0_seekTriples 61 = .ok (.invokevirtual 22, 3) := by decide +kernel
theorem dX0_seekTriples_64 : decode cX0_seekTriples 64 = .ok (.lload 7, 2) := by decide +kernel
theorem dX0_seekTriples_66 : decode cX0_seekTriples 66 = .ok (.lconst 1, 1) := by decide +kernel
theorem dX0_seekTriples_67 : decode cX0_seekTriples 67 = .ok (.ladd, 1) := by decide +kernel
theorem dX0_seekTriples_68 : decode cX0_seekTriples 68 = .ok (.lstore 7, 2) := by decide +kernel
theorem dX0_seekTriples_70 : decode cX0_seekTriples 70 = .ok (.goto (-47), 3) := by decide +kernel
theorem dX0_seekTriples_73 : decode cX0_seekTriples 73 = .ok (.return_, 1) := by decide +kernel
set_option maxRecDepth 20000 in
theorem ggX0_seekPairs_X0_note : GoodIn wsX0_seekPairs wsX0_note := goodIn_r _ [12, 13, 14, 1, 15, 16, 17, 18, 19, 7, 20, 21, 22, 23, 24] (by decide +kernel) (by decide +kernel)
set_option maxRecDepth 20000 in
theorem gX0_seekPairs_X0_note : GoodIn wsX0_seekPairs (wsV RX0 55 RX0 yX0_note wsX0_note) := goodIn_app (goodIn_of _ (by decide +kernel)) ggX0_seekPairs_X0_note
theorem dX0_seekPairs_0 : decode cX0_seekPairs 0 = .ok (.lload 4, 2) := by decide +kernel
theorem dX0_seekPairs_2 : decode cX0_seekPairs 2 = .ok (.lconst 0, 1) := by decide +kernel
theorem dX0_seekPairs_3 : decode cX0_seekPairs 3 = .ok (.lcmp, 1) := by decide +kernel
theorem dX0_seekPairs_4 : decode cX0_seekPairs 4 = .ok (.ifCond .le 18, 3) := by decide +kernel
theorem dX0_seekPairs_7 : decode cX0_seekPairs 7 = .ok (.iload_n 1, 1) := by decide +kernel
theorem dX0_seekPairs_8 : decode cX0_seekPairs 8 = .ok (.ifCond .lt 14, 3) := by decide +kernel
theorem dX0_seekPairs_11 : decode cX0_seekPairs 11 = .ok (.iload_n 1, 1) := by decide +kernel
theorem dX0_seekPairs_12 : decode cX0_seekPairs 12 = .ok (.iconst 1, 1) := by decide +kernel
theorem dX0_seekPairs_13 : decode cX0_seekPairs 13 = .ok (.iadd, 1) := by decide +kernel
theorem dX0_seekPairs_14 : decode cX0_seekPairs 14 = .ok (.aload_n 0, 1) := by decide +kernel
theorem dX0_seekPairs_15 : decode cX0_seekPairs 15 = .ok (.getfield 11, 3) := by decide +kernel
theorem dX0_seekPairs_18 : decode cX0_seekPairs 18 = .ok (.arraylength, 1) := by decide +kernel
theorem dX0_seekPairs_19 : decode cX0_seekPairs 19 = .ok (.if_icmp .lt 4, 3) := by decide +kernel
theorem dX0_seekPairs_22 : decode cX0_seekPairs 22 = .ok (.return_, 1) := by decide +kernel
theorem dX0_seekPairs_23 : decode cX0_seekPairs 23 = .ok (.ldc2_w 47, 3) := by decide +kernel
theorem dX0_seekPairs_26 : decode cX0_seekPairs 26 = .ok (.lload 6, 2) := by decide +kernel
theorem dX0_seekPairs_28 : decode cX0_seekPairs 28 = .ok (.lmul, 1) := by decide +kernel
theorem dX0_seekPairs_29 : decode cX0_seekPairs 29 = .ok (.lload 4, 2) := by decide +kernel
theorem dX0_seekPairs_31 : decode cX0_seekPairs 31 = .ok (.ldiv, 1) := by decide +kernel
theorem dX0_seekPairs_32 : decode cX0_seekPairs 32 = .ok (.lstore 8, 2) := by decide +kernel
theorem dX0_seekPairs_34 : decode cX0_seekPairs 34 = .ok (.lload_n 2, 1) := by decide +kernel
theorem dX0_seekPairs_35 : decode cX0_seekPairs 35 = .ok (.lload 6, 2) := by decide +kernel
theorem dX0_seekPairs_37 : decode cX0_seekPairs 37 = .ok (.lload 4, 2) := by decide +kernel
theorem dX0_seekPairs_39 : decode cX0_seekPairs 39 = .ok (.ldiv, 1) := by decide +kernel
theorem dX0_seekPairs_40 : decode cX0_seekPairs 40 = .ok (.lconst 1, 1) := by decide +kernel
theorem dX0_seekPairs_41 : decode cX0_seekPairs 41 = .ok (.ladd, 1) := by decide +kernel
theorem dX0_seekPairs_42 : decode cX0_seekPairs 42 = .ok (.invokestatic 49, 3) := by decide +kernel
theorem dX0_seekPairs_45 : decode cX0_seekPairs 45 = .ok (.lstore 10, 2) := by decide +kernel
theorem dX0_seekPairs_47 : decode cX0_seekPairs 47 = .ok (.lload 10, 2) := by decide +kernel
theorem dX0_seekPairs_49 : decode cX0_seekPairs 49 = .ok (.lload 8, 2) := by decide +kernel
theorem dX0_seekPairs_51 : decode cX0_seekPairs 51 = .ok (.lcmp, 1) := by decide +kernel
theorem dX0_seekPairs_52 : decode cX0_seekPairs 52 = .ok (.ifCond .gt 80, 3) := by decide +kernel
theorem dX0_seekPairs_55 : decode cX0_seekPairs 55 = .ok (.aload_n 0, 1) := by decide +kernel
theorem dX0_seekPairs_56 : decode cX0_seekPairs 56 = .ok (.getfield 41, 3) := by decide +kernel
theorem dX0_seekPairs_59 : decode cX0_seekPairs 59 = .ok (.ifCond .ne 73, 3) := by decide +kernel
theorem dX0_seekPairs_62 : decode cX0_seekPairs 62 = .ok (.lload 4, 2) := by decide +kernel
theorem dX0_seekPairs_64 : decode cX0_seekPairs 64 = .ok (.lload 10, 2) := by decide +kernel
theorem dX0_seekPairs_66 : decode cX0_seekPairs 66 = .ok (.lmul, 1) := by decide +kernel
theorem dX0_seekPairs_67 : decode cX0_seekPairs 67 = .ok (.lload 6, 2) := by decide +kernel
theorem dX0_seekPairs_69 : decode cX0_seekPairs 69 = .ok (.lsub, 1) := by decide +kernel
theorem dX0_seekPairs_70 : decode cX0_seekPairs 70 = .ok (.lstore 12, 2) := by decide +kernel
theorem dX0_seekPairs_72 : decode cX0_seekPairs 72 = .ok (.lload 6, 2) := by decide +kernel
theorem dX0_seekPairs_74 : decode cX0_seekPairs 74 = .ok (.lload 10, 2) := by decide +kernel
theorem dX0_seekPairs_76 : decode cX0_seekPairs 76 = .ok (.lmul, 1) := by decide +kernel
theorem dX0_seekPairs_77 : decode cX0_seekPairs 77 = .ok (.lstore 14, 2) := by decide +kernel
theorem dX0_seekPairs_79 : decode cX0_seekPairs 79 = .ok (.lload 12, 2) := by decide +kernel
theorem dX0_seekPairs_81 : decode cX0_seekPairs 81 = .ok (.lconst 0, 1) := by decide +kernel
theorem dX0_seekPairs_82 : decode cX0_seekPairs 82 = .ok (.lcmp, 1) := by decide +kernel
theorem dX0_seekPairs_83 : decode cX0_seekPairs 83 = .ok (.ifCond .le 40, 3) := by decide +kernel
theorem dX0_seekPairs_86 : decode cX0_seekPairs 86 = .ok (.lload 14, 2) := by decide +kernel
theorem dX0_seekPairs_88 : decode cX0_seekPairs 88 = .ok (.lload 12, 2) := by decide +kernel
theorem dX0_seekPairs_90 : decode cX0_seekPairs 90 = .ok (.lrem, 1) := by decide +kernel
theorem dX0_seekPairs_91 : decode cX0_seekPairs 91 = .ok (.lconst 0, 1) := by decide +kernel
theorem dX0_seekPairs_92 : decode cX0_seekPairs 92 = .ok (.lcmp, 1) := by decide +kernel
theorem dX0_seekPairs_93 : decode cX0_seekPairs 93 = .ok (.ifCond .ne 30, 3) := by decide +kernel
theorem dX0_seekPairs_96 : decode cX0_seekPairs 96 = .ok (.aload_n 0, 1) := by decide +kernel
theorem dX0_seekPairs_97 : decode cX0_seekPairs 97 = .ok (.getfield 11, 3) := by decide +kernel
theorem dX0_seekPairs_100 : decode cX0_seekPairs 100 = .ok (.iload_n 1, 1) := by decide +kernel
theorem dX0_seekPairs_101 : decode cX0_seekPairs 101 = .ok (.lload 10, 2) := by decide +kernel
theorem dX0_seekPairs_103 : decode cX0_seekPairs 103 = .ok (.l2i, 1) := by decide +kernel
theorem dX0_seekPairs_104 : decode cX0_seekPairs 104 = .ok (.iastore, 1) := by decide +kernel
theorem dX0_seekPairs_105 : decode cX0_seekPairs 105 = .ok (.aload_n 0, 1) := by decide +kernel
theorem dX0_seekPairs_106 : decode cX0_seekPairs 106 = .ok (.getfield 11, 3) := by decide +kernel
theorem dX0_seekPairs_109 : decode cX0_seekPairs 109 = .ok (.iload_n 1, 1) := by decide +kernel
theorem dX0_seekPairs_110 : decode cX0_seekPairs 110 = .ok (.iconst 1, 1) := by decide +kernel
theorem dX0_seekPairs_111 : decode cX0_seekPairs 111 = .ok (.iadd, 1) := by decide +kernel
theorem dX0_seekPairs_112 : decode cX0_seekPairs 112 = .ok (.lload 14, 2) := by decide +kernel
theorem dX0_seekPairs_114 : decode cX0_seekPairs 114 = .ok (.lload 12, 2) := by decide +kernel
theorem dX0_seekPairs_116 : decode cX0_seekPairs 116 = .ok (.ldiv, 1) := by decide +kernel
theorem dX0_seekPairs_117 : decode cX0_seekPairs 117 = .ok (.l2i, 1) := by decide +kernel
theorem dX0_seekPairs_118 : decode cX0_seekPairs 118 = .ok (.iastore, 1) := by decide +kernel
theorem dX0_seekPairs_119 : decode cX0_seekPairs 119 = .ok (.aload_n 0, 1) := by decide +kernel
theorem dX0_seekPairs_120 : decode cX0_seekPairs 120 = .ok (.invokevirtual 55, 3) := by decide +kernel
theorem dX0_seekPairs_123 : decode cX0_seekPairs 123 = .ok (.lload 10, 2) := by decide +kernel
theorem dX0_seekPairs_125 : decode cX0_seekPairs 125 = .ok (.lconst 1, 1) := by decide +kernel
theorem dX0_seekPairs_126 : decode cX0_seekPairs 126 = .ok (.ladd, 1) := by decide +kernel
theorem dX0_seekPairs_127 : decode cX0_seekPairs 127 = .ok (.lstore 10, 2) := by decide +kernel
theorem dX0_seekPairs_129 : decode cX0_seekPairs 129 = .ok (.goto (-82), 3) := by decide +kernel
theorem dX0_seekPairs_132 : decode cX0_seekPairs 132 = .ok (.return_, 1) := by decide +kernel
theorem dX0_note_0 : decode cX0_note 0 = .ok (.aload_n 0, 1) := by decide +kernel
theorem dX0_note_1 : decode cX0_note 1 = .ok (.getfield 26, 3) := by decide +kernel
theorem dX0_note_4 : decode cX0_note 4 = .ok (.aload_n 0, 1) := by decide +kernel
theorem dX0_note_5 : decode cX0_note 5 = .ok (.getfield 38, 3) := by decide +kernel
theorem dX0_note_8 : decode cX0_note 8 = .ok (.if_icmp .ne 26, 3) := by decide +kernel
theorem dX0_note_11 : decode cX0_note 11 = .ok (.aload_n 0, 1) := by decide +kernel
theorem dX0_note_12 : decode cX0_note 12 = .ok (.getfield 11, 3) := by decide +kernel
theorem dX0_note_15 : decode cX0_note 15 = .ok (.iconst 0, 1) := by decide +kernel
theorem dX0_note_16 : decode cX0_note 16 = .ok (.aload_n 0, 1) := by decide +kernel
theorem dX0_note_17 : decode cX0_note 17 = .ok (.getfield 15, 3) := by decide +kernel
theorem dX0_note_20 : decode cX0_note 20 = .ok (.iconst 0, 1) := by decide +kernel
theorem dX0_note_21 : decode cX0_note 21 = .ok (.aload_n 0, 1) := by decide +kernel
theorem dX0_note_22 : decode cX0_note 22 = .ok (.getfield 11, 3) := by decide +kernel
theorem dX0_note_25 : decode cX0_note 25 = .ok (.arraylength, 1) := by decide +kernel
theorem dX0_note_26 : decode cX0_note 26 = .ok (.invokestatic 58, 3) := by decide +kernel
theorem dX0_note_29 : decode cX0_note 29 = .ok (.aload_n 0, 1) := by decide +kernel
theorem dX0_note_30 : decode cX0_note 30 = .ok (.iconst 1, 1) := by decide +kernel
theorem dX0_note_31 : decode cX0_note 31 = .ok (.putfield 41, 3) := by decide +kernel
theorem dX0_note_34 : decode cX0_note 34 = .ok (.aload_n 0, 1) := by decide +kernel
theorem dX0_note_35 : decode cX0_note 35 = .ok (.dup, 1) := by decide +kernel
theorem dX0_note_36 : decode cX0_note 36 = .ok (.getfield 26, 3) := by decide +kernel
theorem dX0_note_39 : decode cX0_note 39 = .ok (.iconst 1, 1) := by decide +kernel
theorem dX0_note_40 : decode cX0_note 40 = .ok (.iadd, 1) := by decide +kernel
theorem dX0_note_41 : decode cX0_note 41 = .ok (.putfield 26, 3) := by decide +kernel
theorem dX0_note_44 : decode cX0_note 44 = .ok (.return_, 1) := by decide +kernel
theorem dX1_init_0 : decode cX1_init 0 = .ok (.aload_n 0, 1) := by decide +kernel
theorem dX1_init_1 : decode cX1_init 1 = .ok (.invokespecial 1, 3) := by decide +kernel
theorem dX1_init_4 : decode cX1_init 4 = .ok (.aload_n 0, 1) := by decide +kernel
theorem dX1_init_5 : decode cX1_init 5 = .ok (.lconst 0, 1) := by decide +kernel
theorem dX1_init_6 : decode cX1_init 6 = .ok (.putfield 7, 3) := by decide +kernel
theorem dX1_init_9 : decode cX1_init 9 = .ok (.aload_n 0, 1) := by decide +kernel
theorem dX1_init_10 : decode cX1_init 10 = .ok (.lconst 1, 1) := by decide +kernel
theorem dX1_init_11 : decode cX1_init 11 = .ok (.putfield 13, 3) := by decide +kernel
theorem dX1_init_14 : decode cX1_init 14 = .ok (.return_, 1) := by decide +kernel
set_option maxRecDepth 20000 in
theorem ggX1_become_X1_commonDivisor : GoodIn wsX1_become wsX1_commonDivisor := goodIn_r _ [6] (by decide +kernel) (by decide +kernel)
set_option maxRecDepth 20000 in
theorem gX1_become_X1_commonDivisor : GoodIn wsX1_become (va_wsS RX1 16 yX1_commonDivisor wsX1_commonDivisor) := goodIn_app (goodIn_of _ (by decide +kernel)) ggX1_become_X1_commonDivisor
theorem dX1_become_0 : decode cX1_become 0 = .ok (.lload_n 1, 1) := by decide +kernel
theorem dX1_become_1 : decode cX1_become 1 = .ok (.lload_n 3, 1) := by decide +kernel
theorem dX1_become_2 : decode cX1_become 2 = .ok (.invokestatic 16, 3) := by decide +kernel
theorem dX1_become_5 : decode cX1_become 5 = .ok (.lstore 5, 2) := by decide +kernel
theorem dX1_become_7 : decode cX1_become 7 = .ok (.lload 5, 2) := by decide +kernel
theorem dX1_become_9 : decode cX1_become 9 = .ok (.lconst 0, 1) := by decide +kernel
theorem dX1_become_10 : decode cX1_become 10 = .ok (.lcmp, 1) := by decide +kernel
theorem dX1_become_11 : decode cX1_become 11 = .ok (.ifCond .gt 4, 3) := by decide +kernel
theorem dX1_become_14 : decode cX1_become 14 = .ok (.return_, 1) := by decide +kernel
theorem dX1_become_15 : decode cX1_become 15 = .ok (.aload_n 0, 1) := by decide +kernel
theorem dX1_become_16 : decode cX1_become 16 = .ok (.lload_n 1, 1) := by decide +kernel
theorem dX1_become_17 : decode cX1_become 17 = .ok (.lload 5, 2) := by decide +kernel
theorem dX1_become_19 : decode cX1_become 19 = .ok (.ldiv, 1) := by decide +kernel
theorem dX1_become_20 : decode cX1_become 20 = .ok (.putfield 7, 3) := by decide +kernel
theorem dX1_become_23 : decode cX1_become 23 = .ok (.aload_n 0, 1) := by decide +kernel
theorem dX1_become_24 : decode cX1_become 24 = .ok (.lload_n 3, 1) := by decide +kernel
theorem dX1_become_25 : decode cX1_become 25 = .ok (.lload 5, 2) := by decide +kernel
theorem dX1_become_27 : decode cX1_become 27 = .ok (.ldiv, 1) := by decide +kernel
theorem dX1_become_28 : decode cX1_become 28 = .ok (.putfield 13, 3) := by decide +kernel
theorem dX1_become_31 : decode cX1_become 31 = .ok (.return_, 1) := by decide +kernel
set_option maxRecDepth 20000 in
theorem ggX1_addShare_X1_commonDivisor : GoodIn wsX1_addShare wsX1_commonDivisor := goodIn_r _ [6] (by decide +kernel) (by decide +kernel)
set_option maxRecDepth 20000 in
theorem gX1_addShare_X1_commonDivisor : GoodIn wsX1_addShare (va_wsS RX1 16 yX1_commonDivisor wsX1_commonDivisor) := goodIn_app (goodIn_of _ (by decide +kernel)) ggX1_addShare_X1_commonDivisor
theorem dX1_addShare_0 : decode cX1_addShare 0 = .ok (.aload_n 0, 1) := by decide +kernel
theorem dX1_addShare_1 : decode cX1_addShare 1 = .ok (.getfield 13, 3) := by decide +kernel
theorem dX1_addShare_4 : decode cX1_addShare 4 = .ok (.lload_n 2, 1) := by decide +kernel
theorem dX1_addShare_5 : decode cX1_addShare 5 = .ok (.invokestatic 16, 3) := by decide +kernel
theorem dX1_addShare_8 : decode cX1_addShare 8 = .ok (.lstore 6, 2) := by decide +kernel
theorem dX1_addShare_10 : decode cX1_addShare 10 = .ok (.lload 6, 2) := by decide +kernel
theorem dX1_addShare_12 : decode cX1_addShare 12 = .ok (.lconst 0, 1) := by decide +kernel
theorem dX1_addShare_13 : decode cX1_addShare 13 = .ok (.lcmp, 1) := by decide +kernel
theorem dX1_addShare_14 : decode cX1_addShare 14 = .ok (.ifCond .gt 5, 3) := by decide +kernel
theorem dX1_addShare_17 : decode cX1_addShare 17 = .ok (.iconst 0, 1) := by decide +kernel
theorem dX1_addShare_18 : decode cX1_addShare 18 = .ok (.ireturn, 1) := by decide +kernel
theorem dX1_addShare_19 : decode cX1_addShare 19 = .ok (.aload_n 0, 1) := by decide +kernel
theorem dX1_addShare_20 : decode cX1_addShare 20 = .ok (.getfield 7, 3) := by decide +kernel
theorem dX1_addShare_23 : decode cX1_addShare 23 = .ok (.lload_n 2, 1) := by decide +kernel
theorem dX1_addShare_24 : decode cX1_addShare 24 = .ok (.lload 6, 2) := by decide +kernel
theorem dX1_addShare_26 : decode cX1_addShare 26 = .ok (.ldiv, 1) := by decide +kernel
theorem dX1_addShare_27 : decode cX1_addShare 27 = .ok (.lmul, 1) := by decide +kernel
theorem dX1_addShare_28 : decode cX1_addShare 28 = .ok (.iload_n 1, 1) := by decide +kernel
theorem dX1_addShare_29 : decode cX1_addShare 29 = .ok (.i2l, 1) := by decide +kernel
theorem dX1_addShare_30 : decode cX1_addShare 30 = .ok (.aload_n 0, 1) := by decide +kernel
theorem dX1_addShare_31 : decode cX1_addShare 31 = .ok (.getfield 13, 3) := by decide +kernel
theorem dX1_addShare_34 : decode cX1_addShare 34 = .ok (.lload 6, 2) := by decide +kernel
theorem dX1_addShare_36 : decode cX1_addShare 36 = .ok (.ldiv, 1) := by decide +kernel
theorem dX1_addShare_37 : decode cX1_addShare 37 = .ok (.lmul, 1) := by decide +kernel
theorem dX1_addShare_38 : decode cX1_addShare 38 = .ok (.ladd, 1) := by decide +kernel
theorem dX1_addShare_39 : decode cX1_addShare 39 = .ok (.lstore 8, 2) := by decide +kernel
theorem dX1_addShare_41 : decode cX1_addShare 41 = .ok (.lload 8, 2) := by decide +kernel
theorem dX1_addShare_43 : decode cX1_addShare 43 = .ok (.lload 6, 2) := by decide +kernel
theorem dX1_addShare_45 : decode cX1_addShare 45 = .ok (.invokestatic 16, 3) := by decide +kernel
theorem dX1_addShare_48 : decode cX1_addShare 48 = .ok (.lstore 10, 2) := by decide +kernel
theorem dX1_addShare_50 : decode cX1_addShare 50 = .ok (.lload 10, 2) := by decide +kernel
theorem dX1_addShare_52 : decode cX1_addShare 52 = .ok (.lconst 0, 1) := by decide +kernel
theorem dX1_addShare_53 : decode cX1_addShare 53 = .ok (.lcmp, 1) := by decide +kernel
theorem dX1_addShare_54 : decode cX1_addShare 54 = .ok (.ifCond .gt 5, 3) := by decide +kernel
theorem dX1_addShare_57 : decode cX1_addShare 57 = .ok (.iconst 0, 1) := by decide +kernel
theorem dX1_addShare_58 : decode cX1_addShare 58 = .ok (.ireturn, 1) := by decide +kernel
theorem dX1_addShare_59 : decode cX1_addShare 59 = .ok (.aload_n 0, 1) := by decide +kernel
theorem dX1_addShare_60 : decode cX1_addShare 60 = .ok (.getfield 13, 3) := by decide +kernel
theorem dX1_addShare_63 : decode cX1_addShare 63 = .ok (.lload 6, 2) := by decide +kernel
theorem dX1_addShare_65 : decode cX1_addShare 65 = .ok (.ldiv, 1) := by decide +kernel
theorem dX1_addShare_66 : decode cX1_addShare 66 = .ok (.lstore 12, 2) := by decide +kernel
theorem dX1_addShare_68 : decode cX1_addShare 68 = .ok (.lload_n 2, 1) := by decide +kernel
theorem dX1_addShare_69 : decode cX1_addShare 69 = .ok (.lload 10, 2) := by decide +kernel
theorem dX1_addShare_71 : decode cX1_addShare 71 = .ok (.ldiv, 1) := by decide +kernel
theorem dX1_addShare_72 : decode cX1_addShare 72 = .ok (.lstore 14, 2) := by decide +kernel
theorem dX1_addShare_74 : decode cX1_addShare 74 = .ok (.lload 14, 2) := by decide +kernel
theorem dX1_addShare_76 : decode cX1_addShare 76 = .ok (.lconst 0, 1) := by decide +kernel
theorem dX1_addShare_77 : decode cX1_addShare 77 = .ok (.lcmp, 1) := by decide +kernel
theorem dX1_addShare_78 : decode cX1_addShare 78 = .ok (.ifCond .le 14, 3) := by decide +kernel
theorem dX1_addShare_81 : decode cX1_addShare 81 = .ok (.lload 12, 2) := by decide +kernel
theorem dX1_addShare_83 : decode cX1_addShare 83 = .ok (.lload 4, 2) := by decide +kernel
theorem dX1_addShare_85 : decode cX1_addShare 85 = .ok (.lload 14, 2) := by decide +kernel
theorem dX1_addShare_87 : decode cX1_addShare 87 = .ok (.ldiv, 1) := by decide +kernel
theorem dX1_addShare_88 : decode cX1_addShare 88 = .ok (.lcmp, 1) := by decide +kernel
theorem dX1_addShare_89 : decode cX1_addShare 89 = .ok (.ifCond .le 5, 3) := by decide +kernel
theorem dX1_addShare_92 : decode cX1_addShare 92 = .ok (.iconst 0, 1) := by decide +kernel
theorem dX1_addShare_93 : decode cX1_addShare 93 = .ok (.ireturn, 1) := by decide +kernel
theorem dX1_addShare_94 : decode cX1_addShare 94 = .ok (.aload_n 0, 1) := by decide +kernel
theorem dX1_addShare_95 : decode cX1_addShare 95 = .ok (.lload 8, 2) := by decide +kernel
theorem dX1_addShare_97 : decode cX1_addShare 97 = .ok (.lload 10, 2) := by decide +kernel
theorem dX1_addShare_99 : decode cX1_addShare 99 = .ok (.ldiv, 1) := by decide +kernel
theorem dX1_addShare_100 : decode cX1_addShare 100 = .ok (.putfield 7, 3) := by decide +kernel
theorem dX1_addShare_103 : decode cX1_addShare 103 = .ok (.aload_n 0, 1) := by decide +kernel
theorem dX1_addShare_104 : decode cX1_addShare 104 = .ok (.lload 12, 2) := by decide +kernel
theorem dX1_addShare_106 : decode cX1_addShare 106 = .ok (.lload 14, 2) := by decide +kernel
theorem dX1_addShare_108 : decode cX1_addShare 108 = .ok (.lmul, 1) := by decide +kernel
theorem dX1_addShare_109 : decode cX1_addShare 109 = .ok (.putfield 13, 3) := by decide +kernel
theorem dX1_addShare_112 : decode cX1_addShare 112 = .ok (.iconst 1, 1) := by decide +kernel
theorem dX1_addShare_113 : decode cX1_addShare 113 = .ok (.ireturn, 1) := by decide +kernel
theorem dX1_leastShare_0 : decode cX1_leastShare 0 = .ok (.aload_n 0, 1) := by decide +kernel
theorem dX1_leastShare_1 : decode cX1_leastShare 1 = .ok (.getfield 7, 3) := by decide +kernel
theorem dX1_leastShare_4 : decode cX1_leastShare 4 = .ok (.lconst 0, 1) := by decide +kernel
theorem dX1_leastShare_5 : decode cX1_leastShare 5 = .ok (.lcmp, 1) := by decide +kernel
theorem dX1_leastShare_6 : decode cX1_leastShare 6 = .ok (.ifCond .gt 7, 3) := by decide +kernel
theorem dX1_leastShare_9 : decode cX1_leastShare 9 = .ok (.lconst 0, 1) := by decide +kernel
theorem dX1_leastShare_10 : decode cX1_leastShare 10 = .ok (.goto 19, 3) := by decide +kernel
theorem dX1_leastShare_13 : decode cX1_leastShare 13 = .ok (.aload_n 0, 1) := by decide +kernel
theorem dX1_leastShare_14 : decode cX1_leastShare 14 = .ok (.getfield 13, 3) := by decide +kernel
theorem dX1_leastShare_17 : decode cX1_leastShare 17 = .ok (.aload_n 0, 1) := by decide +kernel
theorem dX1_leastShare_18 : decode cX1_leastShare 18 = .ok (.getfield 7, 3) := by decide +kernel
theorem dX1_leastShare_21 : decode cX1_leastShare 21 = .ok (.ladd, 1) := by decide +kernel
theorem dX1_leastShare_22 : decode cX1_leastShare 22 = .ok (.lconst 1, 1) := by decide +kernel
theorem dX1_leastShare_23 : decode cX1_leastShare 23 = .ok (.lsub, 1) := by decide +kernel
theorem dX1_leastShare_24 : decode cX1_leastShare 24 = .ok (.aload_n 0, 1) := by decide +kernel
theorem dX1_leastShare_25 : decode cX1_leastShare 25 = .ok (.getfield 7, 3) := by decide +kernel
theorem dX1_leastShare_28 : decode cX1_leastShare 28 = .ok (.ldiv, 1) := by decide +kernel
theorem dX1_leastShare_29 : decode cX1_leastShare 29 = .ok (.lreturn, 1) := by decide +kernel
theorem dX1_commonDivisor_0 : decode cX1_commonDivisor 0 = .ok (.lload_n 0, 1) := by decide +kernel
theorem dX1_commonDivisor_1 : decode cX1_commonDivisor 1 = .ok (.lstore 4, 2) := by decide +kernel
theorem dX1_commonDivisor_3 : decode cX1_commonDivisor 3 = .ok (.lload_n 2, 1) := by decide +kernel
theorem dX1_commonDivisor_4 : decode cX1_commonDivisor 4 = .ok (.lstore 6, 2) := by decide +kernel
theorem dX1_commonDivisor_6 : decode cX1_commonDivisor 6 = .ok (.iconst 0, 1) := by decide +kernel
theorem dX1_commonDivisor_7 : decode cX1_commonDivisor 7 = .ok (.istore 8, 2) := by decide +kernel
theorem dX1_commonDivisor_9 : decode cX1_commonDivisor 9 = .ok (.iload 8, 2) := by decide +kernel
theorem dX1_commonDivisor_11 : decode cX1_commonDivisor 11 = .ok (.bipush 100, 2) := by decide +kernel
theorem dX1_commonDivisor_13 : decode cX1_commonDivisor 13 = .ok (.if_icmp .ge 31, 3) := by decide +kernel
theorem dX1_commonDivisor_16 : decode cX1_commonDivisor 16 = .ok (.lload 6, 2) := by decide +kernel
theorem dX1_commonDivisor_18 : decode cX1_commonDivisor 18 = .ok (.lconst 0, 1) := by decide +kernel
theorem dX1_commonDivisor_19 : decode cX1_commonDivisor 19 = .ok (.lcmp, 1) := by decide +kernel
theorem dX1_commonDivisor_20 : decode cX1_commonDivisor 20 = .ok (.ifCond .eq 24, 3) := by decide +kernel
theorem dX1_commonDivisor_23 : decode cX1_commonDivisor 23 = .ok (.lload 4, 2) := by decide +kernel
theorem dX1_commonDivisor_25 : decode cX1_commonDivisor 25 = .ok (.lload 6, 2) := by decide +kernel
theorem dX1_commonDivisor_27 : decode cX1_commonDivisor 27 = .ok (.lrem, 1) := by decide +kernel
theorem dX1_commonDivisor_28 : decode cX1_commonDivisor 28 = .ok (.lstore 9, 2) := by decide +kernel
theorem dX1_commonDivisor_30 : decode cX1_commonDivisor 30 = .ok (.lload 6, 2) := by decide +kernel
theorem dX1_commonDivisor_32 : decode cX1_commonDivisor 32 = .ok (.lstore 4, 2) := by decide +kernel
theorem dX1_commonDivisor_34 : decode cX1_commonDivisor 34 = .ok (.lload 9, 2) := by decide +kernel
theorem dX1_commonDivisor_36 : decode cX1_commonDivisor 36 = .ok (.lstore 6, 2) := by decide +kernel
theorem dX1_commonDivisor_38 : decode cX1_commonDivisor 38 = .ok (.iinc 8 1, 3) := by decide +kernel
theorem dX1_commonDivisor_41 : decode cX1_commonDivisor 41 = .ok (.goto (-32), 3) := by decide +kernel
theorem dX1_commonDivisor_44 : decode cX1_commonDivisor 44 = .ok (.lload 4, 2) := by decide +kernel
theorem dX1_commonDivisor_46 : decode cX1_commonDivisor 46 = .ok (.lreturn, 1) := by decide +kernel
set_option maxRecDepth 20000 in
theorem ggX2_init_X1_init : GoodIn wsX2_init wsX1_init := goodIn_r _ [15, 16, 2, 3, 17, 18, 24, 25] (by decide +kernel) (by decide +kernel)
set_option maxRecDepth 20000 in
theorem gX2_init_X1_init : GoodIn wsX2_init (wsX1_init) := ggX2_init_X1_init
theorem dX2_init_0 : decode cX2_init 0 = .ok (.aload_n 0, 1) := by decide +kernel
theorem dX2_init_1 : decode cX2_init 1 = .ok (.invokespecial 3, 3) := by decide +kernel
theorem dX2_init_4 : decode cX2_init 4 = .ok (.aload_n 0, 1) := by decide +kernel
theorem dX2_init_5 : decode cX2_init 5 = .ok (.bipush 40, 2) := by decide +kernel
theorem dX2_init_7 : decode cX2_init 7 = .ok (.newarray .int, 2) := by decide +kernel
theorem dX2_init_9 : decode cX2_init 9 = .ok (.putfield 11, 3) := by decide +kernel
theorem dX2_init_12 : decode cX2_init 12 = .ok (.aload_n 0, 1) := by decide +kernel
theorem dX2_init_13 : decode cX2_init 13 = .ok (.bipush 41, 2) := by decide +kernel
theorem dX2_init_15 : decode cX2_init 15 = .ok (.newarray .long, 2) := by decide +kernel
theorem dX2_init_17 : decode cX2_init 17 = .ok (.putfield 15, 3) := by decide +kernel
theorem dX2_init_20 : decode cX2_init 20 = .ok (.aload_n 0, 1) := by decide +kernel
theorem dX2_init_21 : decode cX2_init 21 = .ok (.bipush 41, 2) := by decide +kernel
theorem dX2_init_23 : decode cX2_init 23 = .ok (.newarray .long, 2) := by decide +kernel
theorem dX2_init_25 : decode cX2_init 25 = .ok (.putfield 19, 3) := by decide +kernel
theorem dX2_init_28 : decode cX2_init 28 = .ok (.aload_n 0, 1) := by decide +kernel
theorem dX2_init_29 : decode cX2_init 29 = .ok (.new 22, 3) := by decide +kernel
theorem dX2_init_32 : decode cX2_init 32 = .ok (.dup, 1) := by decide +kernel
theorem dX2_init_33 : decode cX2_init 33 = .ok (.invokespecial 24, 3) := by decide +kernel
theorem dX2_init_36 : decode cX2_init 36 = .ok (.putfield 25, 3) := by decide +kernel
theorem dX2_init_39 : decode cX2_init 39 = .ok (.aload_n 0, 1) := by decide +kernel
theorem dX2_init_40 : decode cX2_init 40 = .ok (.getfield 19, 3) := by decide +kernel
theorem dX2_init_43 : decode cX2_init 43 = .ok (.iconst 0, 1) := by decide +kernel
theorem dX2_init_44 : decode cX2_init 44 = .ok (.lconst 1, 1) := by decide +kernel
theorem dX2_init_45 : decode cX2_init 45 = .ok (.lastore, 1) := by decide +kernel
theorem dX2_init_46 : decode cX2_init 46 = .ok (.return_, 1) := by decide +kernel
set_option maxRecDepth 20000 in
theorem ggX2_start_X1_become : GoodIn wsX2_start wsX1_become := goodIn_r _ [16, 17, 18, 19, 20, 15, 21, 43, 44] (by decide +kernel) (by decide +kernel)
set_option maxRecDepth 20000 in
theorem gX2_start_X1_become : GoodIn wsX2_start (wsV RX2 29 RX1 yX1_become wsX1_become) := goodIn_app (goodIn_of _ (by decide +kernel)) ggX2_start_X1_become
set_option maxRecDepth 20000 in
theorem ggX2_start_X2_keepRest : GoodIn wsX2_start wsX2_keepRest := goodIn_r _ [26, 2, 27, 28, 1, 4, 29, 38, 39, 40, 41, 42, 43, 44] (by decide +kernel) (by decide +kernel)
set_option maxRecDepth 20000 in
theorem gX2_start_X2_keepRest : GoodIn wsX2_start (wsV RX2 37 RX2 yX2_keepRest wsX2_keepRest) := goodIn_app (goodIn_of _ (by decide +kernel)) ggX2_start_X2_keepRest
set_option maxRecDepth 20000 in
theorem ggX2_start_X1_leastShare : GoodIn wsX2_start wsX1_leastShare := goodIn_r _ [33, 17, 18, 43, 44] (by decide +kernel) (by decide +kernel)
set_option maxRecDepth 20000 in
theorem gX2_start_X1_leastShare : GoodIn wsX2_start (wsV RX2 45 RX1 yX1_leastShare wsX1_leastShare) := goodIn_app (goodIn_of _ (by decide +kernel)) ggX2_start_X1_leastShare
set_option maxRecDepth 20000 in
theorem ggX2_start_X1_addShare : GoodIn wsX2_start wsX1_addShare := goodIn_r _ [37, 18, 17, 19, 20, 15, 21, 43, 44] (by decide +kernel) (by decide +kernel)
set_option maxRecDepth 20000 in
theorem gX2_start_X1_addShare : GoodIn wsX2_start (wsV RX2 59 RX1 yX1_addShare wsX1_addShare) := goodIn_app (goodIn_of _ (by decide +kernel)) ggX2_start_X1_addShare
theorem dX2_start_0 : decode cX2_start 0 = .ok (.aload_n 0, 1) := by decide +kernel
theorem dX2_start_1 : decode cX2_start 1 = .ok (.getfield 25, 3) := by decide +kernel
theorem dX2_start_4 : decode cX2_start 4 = .ok (.iload_n 1, 1) := by decide +kernel
theorem dX2_start_5 : decode cX2_start 5 = .ok (.i2l, 1) := by decide +kernel
theorem dX2_start_6 : decode cX2_start 6 = .ok (.iload_n 2, 1) := by decide +kernel
theorem dX2_start_7 : decode cX2_start 7 = .ok (.i2l, 1) := by decide +kernel
theorem dX2_start_8 : decode cX2_start 8 = .ok (.invokevirtual 29, 3) := by decide +kernel
theorem dX2_start_11 : decode cX2_start 11 = .ok (.aload_n 0, 1) := by decide +kernel
theorem dX2_start_12 : decode cX2_start 12 = .ok (.iconst 0, 1) := by decide +kernel
theorem dX2_start_13 : decode cX2_start 13 = .ok (.putfield 33, 3) := by decide +kernel
theorem dX2_start_16 : decode cX2_start 16 = .ok (.aload_n 0, 1) := by decide +kernel
theorem dX2_start_17 : decode cX2_start 17 = .ok (.invokevirtual 37, 3) := by decide +kernel
theorem dX2_start_20 : decode cX2_start 20 = .ok (.ldc2_w 40, 3) := by decide +kernel
theorem dX2_start_23 : decode cX2_start 23 = .ok (.lstore_n 3, 1) := by decide +kernel
theorem dX2_start_24 : decode cX2_start 24 = .ok (.aload_n 0, 1) := by decide +kernel
theorem dX2_start_25 : decode cX2_start 25 = .ok (.getfield 33, 3) := by decide +kernel
theorem dX2_start_28 : decode cX2_start 28 = .ok (.bipush 40, 2) := by decide +kernel
theorem dX2_start_30 : decode cX2_start 30 = .ok (.if_icmp .ge 83, 3) := by decide +kernel
theorem dX2_start_33 : decode cX2_start 33 = .ok (.aload_n 0, 1) := by decide +kernel
theorem dX2_start_34 : decode cX2_start 34 = .ok (.getfield 25, 3) := by decide +kernel
theorem dX2_start_37 : decode cX2_start 37 = .ok (.getfield 42, 3) := by decide +kernel
theorem dX2_start_40 : decode cX2_start 40 = .ok (.lconst 0, 1) := by decide +kernel
theorem dX2_start_41 : decode cX2_start 41 = .ok (.lcmp, 1) := by decide +kernel
theorem dX2_start_42 : decode cX2_start 42 = .ok (.ifCond .le 71, 3) := by decide +kernel
theorem dX2_start_45 : decode cX2_start 45 = .ok (.lload_n 3, 1) := by decide +kernel
theorem dX2_start_46 : decode cX2_start 46 = .ok (.aload_n 0, 1) := by decide +kernel
theorem dX2_start_47 : decode cX2_start 47 = .ok (.getfield 25, 3) := by decide +kernel
theorem dX2_start_50 : decode cX2_start 50 = .ok (.invokevirtual 45, 3) := by decide +kernel
theorem dX2_start_53 : decode cX2_start 53 = .ok (.invokestatic 49, 3) := by decide +kernel
theorem dX2_start_56 : decode cX2_start 56 = .ok (.lstore_n 3, 1) := by decide +kernel
theorem dX2_start_57 : decode cX2_start 57 = .ok (.lload_n 3, 1) := by decide +kernel
theorem dX2_start_58 : decode cX2_start 58 = .ok (.ldc2_w 55, 3) := by decide +kernel
theorem dX2_start_61 : decode cX2_start 61 = .ok (.lcmp, 1) := by decide +kernel
theorem dX2_start_62 : decode cX2_start 62 = .ok (.ifCond .gt 18, 3) := by decide +kernel
theorem dX2_start_65 : decode cX2_start 65 = .ok (.aload_n 0, 1) := by decide +kernel
theorem dX2_start_66 : decode cX2_start 66 = .ok (.getfield 25, 3) := by decide +kernel
theorem dX2_start_69 : decode cX2_start 69 = .ok (.iconst (-1), 1) := by decide +kernel
theorem dX2_start_70 : decode cX2_start 70 = .ok (.lload_n 3, 1) := by decide +kernel
theorem dX2_start_71 : decode cX2_start 71 = .ok (.ldc2_w 57, 3) := by decide +kernel
theorem dX2_start_74 : decode cX2_start 74 = .ok (.invokevirtual 59, 3) := by decide +kernel
theorem dX2_start_77 : decode cX2_start 77 = .ok (.ifCond .ne 4, 3) := by decide +kernel
theorem dX2_start_80 : decode cX2_start 80 = .ok (.return_, 1) := by decide +kernel
theorem dX2_start_81 : decode cX2_start 81 = .ok (.aload_n 0, 1) := by decide +kernel
theorem dX2_start_82 : decode cX2_start 82 = .ok (.getfield 11, 3) := by decide +kernel
theorem dX2_start_85 : decode cX2_start 85 = .ok (.aload_n 0, 1) := by decide +kernel
theorem dX2_start_86 : decode cX2_start 86 = .ok (.getfield 33, 3) := by decide +kernel
theorem dX2_start_89 : decode cX2_start 89 = .ok (.lload_n 3, 1) := by decide +kernel
theorem dX2_start_90 : decode cX2_start 90 = .ok (.l2i, 1) := by decide +kernel
theorem dX2_start_91 : decode cX2_start 91 = .ok (.iastore, 1) := by decide +kernel
theorem dX2_start_92 : decode cX2_start 92 = .ok (.aload_n 0, 1) := by decide +kernel
theorem dX2_start_93 : decode cX2_start 93 = .ok (.dup, 1) := by decide +kernel
theorem dX2_start_94 : decode cX2_start 94 = .ok (.getfield 33, 3) := by decide +kernel
theorem dX2_start_97 : decode cX2_start 97 = .ok (.iconst 1, 1) := by decide +kernel
theorem dX2_start_98 : decode cX2_start 98 = .ok (.iadd, 1) := by decide +kernel
theorem dX2_start_99 : decode cX2_start 99 = .ok (.putfield 33, 3) := by decide +kernel
theorem dX2_start_102 : decode cX2_start 102 = .ok (.aload_n 0, 1) := by decide +kernel
theorem dX2_start_103 : decode cX2_start 103 = .ok (.invokevirtual 37, 3) := by decide +kernel
theorem dX2_start_106 : decode cX2_start 106 = .ok (.lload_n 3, 1) := by decide +kernel
theorem dX2_start_107 : decode cX2_start 107 = .ok (.lconst 1, 1) := by decide +kernel
theorem dX2_start_108 : decode cX2_start 108 = .ok (.ladd, 1) := by decide +kernel
theorem dX2_start_109 : decode cX2_start 109 = .ok (.lstore_n 3, 1) := by decide +kernel
theorem dX2_start_110 : decode cX2_start 110 = .ok (.goto (-86), 3) := by decide +kernel
theorem dX2_start_113 : decode cX2_start 113 = .ok (.return_, 1) := by decide +kernel
theorem dX2_size_0 : decode cX2_size 0 = .ok (.aload_n 0, 1) := by decide +kernel
theorem dX2_size_1 : decode cX2_size 1 = .ok (.getfield 33, 3) := by decide +kernel
theorem dX2_size_4 : decode cX2_size 4 = .ok (.ireturn, 1) := by decide +kernel
theorem dX2_at_0 : decode cX2_at 0 = .ok (.iload_n 1, 1) := by decide +kernel
theorem dX2_at_1 : decode cX2_at 1 = .ok (.ifCond .lt 20, 3) := by decide +kernel
theorem dX2_at_4 : decode cX2_at 4 = .ok (.iload_n 1, 1) := by decide +kernel
theorem dX2_at_5 : decode cX2_at 5 = .ok (.aload_n 0, 1) := by decide +kernel
theorem dX2_at_6 : decode cX2_at 6 = .ok (.getfield 33, 3) := by decide +kernel
theorem dX2_at_9 : decode cX2_at 9 = .ok (.if_icmp .ge 12, 3) := by decide +kernel
theorem dX2_at_12 : decode cX2_at 12 = .ok (.iload_n 1, 1) := by decide +kernel
theorem dX2_at_13 : decode cX2_at 13 = .ok (.aload_n 0, 1) := by decide +kernel
theorem dX2_at_14 : decode cX2_at 14 = .ok (.getfield 11, 3) := by decide +kernel
theorem dX2_at_17 : decode cX2_at 17 = .ok (.arraylength, 1) := by decide +kernel
theorem dX2_at_18 : decode cX2_at 18 = .ok (.if_icmp .lt 7, 3) := by decide +kernel
theorem dX2_at_21 : decode cX2_at 21 = .ok (.iconst (-1), 1) := by decide +kernel
theorem dX2_at_22 : decode cX2_at 22 = .ok (.goto 9, 3) := by decide +kernel
theorem dX2_at_25 : decode cX2_at 25 = .ok (.aload_n 0, 1) := by decide +kernel
theorem dX2_at_26 : decode cX2_at 26 = .ok (.getfield 11, 3) := by decide +kernel
theorem dX2_at_29 : decode cX2_at 29 = .ok (.iload_n 1, 1) := by decide +kernel
theorem dX2_at_30 : decode cX2_at 30 = .ok (.iaload, 1) := by decide +kernel
theorem dX2_at_31 : decode cX2_at 31 = .ok (.ireturn, 1) := by decide +kernel
theorem dX2_isDone_0 : decode cX2_isDone 0 = .ok (.aload_n 0, 1) := by decide +kernel
theorem dX2_isDone_1 : decode cX2_isDone 1 = .ok (.getfield 33, 3) := by decide +kernel
theorem dX2_isDone_4 : decode cX2_isDone 4 = .ok (.ifCond .le 19, 3) := by decide +kernel
theorem dX2_isDone_7 : decode cX2_isDone 7 = .ok (.aload_n 0, 1) := by decide +kernel
theorem dX2_isDone_8 : decode cX2_isDone 8 = .ok (.getfield 25, 3) := by decide +kernel
theorem dX2_isDone_11 : decode cX2_isDone 11 = .ok (.getfield 42, 3) := by decide +kernel
theorem dX2_isDone_14 : decode cX2_isDone 14 = .ok (.lconst 0, 1) := by decide +kernel
theorem dX2_isDone_15 : decode cX2_isDone 15 = .ok (.lcmp, 1) := by decide +kernel
theorem dX2_isDone_16 : decode cX2_isDone 16 = .ok (.ifCond .ne 7, 3) := by decide +kernel
theorem dX2_isDone_19 : decode cX2_isDone 19 = .ok (.iconst 1, 1) := by decide +kernel
theorem dX2_isDone_20 : decode cX2_isDone 20 = .ok (.goto 4, 3) := by decide +kernel
theorem dX2_isDone_23 : decode cX2_isDone 23 = .ok (.iconst 0, 1) := by decide +kernel
theorem dX2_isDone_24 : decode cX2_isDone 24 = .ok (.ireturn, 1) := by decide +kernel
theorem dX2_aboveBehind_0 : decode cX2_aboveBehind 0 = .ok (.iload_n 1, 1) := by decide +kernel
theorem dX2_aboveBehind_1 : decode cX2_aboveBehind 1 = .ok (.ifCond .lt 12, 3) := by decide +kernel
theorem dX2_aboveBehind_4 : decode cX2_aboveBehind 4 = .ok (.iload_n 1, 1) := by decide +kernel
theorem dX2_aboveBehind_5 : decode cX2_aboveBehind 5 = .ok (.aload_n 0, 1) := by decide +kernel
theorem dX2_aboveBehind_6 : decode cX2_aboveBehind 6 = .ok (.getfield 15, 3) := by decide +kernel
theorem dX2_aboveBehind_9 : decode cX2_aboveBehind 9 = .ok (.arraylength, 1) := by decide +kernel
theorem dX2_aboveBehind_10 : decode cX2_aboveBehind 10 = .ok (.if_icmp .lt 7, 3) := by decide +kernel
theorem dX2_aboveBehind_13 : decode cX2_aboveBehind 13 = .ok (.lconst 0, 1) := by decide +kernel
theorem dX2_aboveBehind_14 : decode cX2_aboveBehind 14 = .ok (.goto 9, 3) := by decide +kernel
theorem dX2_aboveBehind_17 : decode cX2_aboveBehind 17 = .ok (.aload_n 0, 1) := by decide +kernel
theorem dX2_aboveBehind_18 : decode cX2_aboveBehind 18 = .ok (.getfield 15, 3) := by decide +kernel
theorem dX2_aboveBehind_21 : decode cX2_aboveBehind 21 = .ok (.iload_n 1, 1) := by decide +kernel
theorem dX2_aboveBehind_22 : decode cX2_aboveBehind 22 = .ok (.laload, 1) := by decide +kernel
theorem dX2_aboveBehind_23 : decode cX2_aboveBehind 23 = .ok (.lreturn, 1) := by decide +kernel
theorem dX2_belowBehind_0 : decode cX2_belowBehind 0 = .ok (.iload_n 1, 1) := by decide +kernel
theorem dX2_belowBehind_1 : decode cX2_belowBehind 1 = .ok (.ifCond .lt 12, 3) := by decide +kernel
theorem dX2_belowBehind_4 : decode cX2_belowBehind 4 = .ok (.iload_n 1, 1) := by decide +kernel
theorem dX2_belowBehind_5 : decode cX2_belowBehind 5 = .ok (.aload_n 0, 1) := by decide +kernel
theorem dX2_belowBehind_6 : decode cX2_belowBehind 6 = .ok (.getfield 19, 3) := by decide +kernel
theorem dX2_belowBehind_9 : decode cX2_belowBehind 9 = .ok (.arraylength, 1) := by decide +kernel
theorem dX2_belowBehind_10 : decode cX2_belowBehind 10 = .ok (.if_icmp .lt 7, 3) := by decide +kernel
theorem dX2_belowBehind_13 : decode cX2_belowBehind 13 = .ok (.lconst 1, 1) := by decide +kernel
theorem dX2_belowBehind_14 : decode cX2_belowBehind 14 = .ok (.goto 9, 3) := by decide +kernel
theorem dX2_belowBehind_17 : decode cX2_belowBehind 17 = .ok (.aload_n 0, 1) := by decide +kernel
theorem dX2_belowBehind_18 : decode cX2_belowBehind 18 = .ok (.getfield 19, 3) := by decide +kernel
theorem dX2_belowBehind_21 : decode cX2_belowBehind 21 = .ok (.iload_n 1, 1) := by decide +kernel
theorem dX2_belowBehind_22 : decode cX2_belowBehind 22 = .ok (.laload, 1) := by decide +kernel
theorem dX2_belowBehind_23 : decode cX2_belowBehind 23 = .ok (.lreturn, 1) := by decide +kernel
theorem dX2_keepRest_0 : decode cX2_keepRest 0 = .ok (.aload_n 0, 1) := by decide +kernel
theorem dX2_keepRest_1 : decode cX2_keepRest 1 = .ok (.getfield 33, 3) := by decide +kernel
theorem dX2_keepRest_4 : decode cX2_keepRest 4 = .ok (.aload_n 0, 1) := by decide +kernel
theorem dX2_keepRest_5 : decode cX2_keepRest 5 = .ok (.getfield 15, 3) := by decide +kernel
theorem dX2_keepRest_8 : decode cX2_keepRest 8 = .ok (.arraylength, 1) := by decide +kernel
theorem dX2_keepRest_9 : decode cX2_keepRest 9 = .ok (.if_icmp .ge 47, 3) := by decide +kernel
theorem dX2_keepRest_12 : decode cX2_keepRest 12 = .ok (.aload_n 0, 1) := by decide +kernel
theorem dX2_keepRest_13 : decode cX2_keepRest 13 = .ok (.getfield 33, 3) := by decide +kernel
theorem dX2_keepRest_16 : decode cX2_keepRest 16 = .ok (.aload_n 0, 1) := by decide +kernel
theorem dX2_keepRest_17 : decode cX2_keepRest 17 = .ok (.getfield 19, 3) := by decide +kernel
theorem dX2_keepRest_20 : decode cX2_keepRest 20 = .ok (.arraylength, 1) := by decide +kernel
theorem dX2_keepRest_21 : decode cX2_keepRest 21 = .ok (.if_icmp .ge 35, 3) := by decide +kernel
theorem dX2_keepRest_24 : decode cX2_keepRest 24 = .ok (.aload_n 0, 1) := by decide +kernel
theorem dX2_keepRest_25 : decode cX2_keepRest 25 = .ok (.getfield 15, 3) := by decide +kernel
theorem dX2_keepRest_28 : decode cX2_keepRest 28 = .ok (.aload_n 0, 1) := by decide +kernel
theorem dX2_keepRest_29 : decode cX2_keepRest 29 = .ok (.getfield 33, 3) := by decide +kernel
theorem dX2_keepRest_32 : decode cX2_keepRest 32 = .ok (.aload_n 0, 1) := by decide +kernel
theorem dX2_keepRest_33 : decode cX2_keepRest 33 = .ok (.getfield 25, 3) := by decide +kernel
theorem dX2_keepRest_36 : decode cX2_keepRest 36 = .ok (.getfield 42, 3) := by decide +kernel
theorem dX2_keepRest_39 : decode cX2_keepRest 39 = .ok (.lastore, 1) := by decide +kernel
theorem dX2_keepRest_40 : decode cX2_keepRest 40 = .ok (.aload_n 0, 1) := by decide +kernel
theorem dX2_keepRest_41 : decode cX2_keepRest 41 = .ok (.getfield 19, 3) := by decide +kernel
theorem dX2_keepRest_44 : decode cX2_keepRest 44 = .ok (.aload_n 0, 1) := by decide +kernel
theorem dX2_keepRest_45 : decode cX2_keepRest 45 = .ok (.getfield 33, 3) := by decide +kernel
theorem dX2_keepRest_48 : decode cX2_keepRest 48 = .ok (.aload_n 0, 1) := by decide +kernel
theorem dX2_keepRest_49 : decode cX2_keepRest 49 = .ok (.getfield 25, 3) := by decide +kernel
theorem dX2_keepRest_52 : decode cX2_keepRest 52 = .ok (.getfield 63, 3) := by decide +kernel
theorem dX2_keepRest_55 : decode cX2_keepRest 55 = .ok (.lastore, 1) := by decide +kernel
theorem dX2_keepRest_56 : decode cX2_keepRest 56 = .ok (.return_, 1) := by decide +kernel
set_option maxRecDepth 20000 in
theorem ggX3_init_X1_init : GoodIn wsX3_init wsX1_init := goodIn_r _ [12, 13, 2, 3, 14, 15, 19, 20] (by decide +kernel) (by decide +kernel)
set_option maxRecDepth 20000 in
theorem gX3_init_X1_init : GoodIn wsX3_init (wsX1_init) := ggX3_init_X1_init
theorem dX3_init_0 : decode cX3_init 0 = .ok (.aload_n 0, 1) := by decide +kernel
theorem dX3_init_1 : decode cX3_init 1 = .ok (.invokespecial 3, 3) := by decide +kernel
theorem dX3_init_4 : decode cX3_init 4 = .ok (.aload_n 0, 1) := by decide +kernel
theorem dX3_init_5 : decode cX3_init 5 = .ok (.iconst 5, 1) := by decide +kernel
theorem dX3_init_6 : decode cX3_init 6 = .ok (.newarray .int, 2) := by decide +kernel
theorem dX3_init_8 : decode cX3_init 8 = .ok (.putfield 9, 3) := by decide +kernel
theorem dX3_init_11 : decode cX3_init 11 = .ok (.aload_n 0, 1) := by decide +kernel
theorem dX3_init_12 : decode cX3_init 12 = .ok (.new 15, 3) := by decide +kernel
theorem dX3_init_15 : decode cX3_init 15 = .ok (.dup, 1) := by decide +kernel
theorem dX3_init_16 : decode cX3_init 16 = .ok (.invokespecial 17, 3) := by decide +kernel
theorem dX3_init_19 : decode cX3_init 19 = .ok (.putfield 18, 3) := by decide +kernel
theorem dX3_init_22 : decode cX3_init 22 = .ok (.return_, 1) := by decide +kernel
theorem dX3_size_0 : decode cX3_size 0 = .ok (.aload_n 0, 1) := by decide +kernel
theorem dX3_size_1 : decode cX3_size 1 = .ok (.getfield 22, 3) := by decide +kernel
theorem dX3_size_4 : decode cX3_size 4 = .ok (.ireturn, 1) := by decide +kernel
theorem dX3_isFull_0 : decode cX3_isFull 0 = .ok (.aload_n 0, 1) := by decide +kernel
theorem dX3_isFull_1 : decode cX3_isFull 1 = .ok (.getfield 22, 3) := by decide +kernel
theorem dX3_isFull_4 : decode cX3_isFull 4 = .ok (.aload_n 0, 1) := by decide +kernel
theorem dX3_isFull_5 : decode cX3_isFull 5 = .ok (.getfield 9, 3) := by decide +kernel
theorem dX3_isFull_8 : decode cX3_isFull 8 = .ok (.arraylength, 1) := by decide +kernel
theorem dX3_isFull_9 : decode cX3_isFull 9 = .ok (.if_icmp .lt 7, 3) := by decide +kernel
theorem dX3_isFull_12 : decode cX3_isFull 12 = .ok (.iconst 1, 1) := by decide +kernel
theorem dX3_isFull_13 : decode cX3_isFull 13 = .ok (.goto 4, 3) := by decide +kernel
theorem dX3_isFull_16 : decode cX3_isFull 16 = .ok (.iconst 0, 1) := by decide +kernel
theorem dX3_isFull_17 : decode cX3_isFull 17 = .ok (.ireturn, 1) := by decide +kernel
set_option maxRecDepth 20000 in
theorem ggX3_holds_X3_placeOf : GoodIn wsX3_holds wsX3_placeOf := goodIn_r _ [5, 6, 7, 8, 9, 10] (by decide +kernel) (by decide +kernel)
set_option maxRecDepth 20000 in
theorem gX3_holds_X3_placeOf : GoodIn wsX3_holds (wsV RX3 26 RX3 yX3_placeOf wsX3_placeOf) := goodIn_app (goodIn_of _ (by decide +kernel)) ggX3_holds_X3_placeOf
theorem dX3_holds_0 : decode cX3_holds 0 = .ok (.aload_n 0, 1) := by decide +kernel
theorem dX3_holds_1 : decode cX3_holds 1 = .ok (.iload_n 1, 1) := by decide +kernel
theorem dX3_holds_2 : decode cX3_holds 2 = .ok (.invokevirtual 26, 3) := by decide +kernel
theorem dX3_holds_5 : decode cX3_holds 5 = .ok (.iconst (-1), 1) := by decide +kernel
theorem dX3_holds_6 : decode cX3_holds 6 = .ok (.if_icmp .eq 7, 3) := by decide +kernel
theorem dX3_holds_9 : decode cX3_holds 9 = .ok (.iconst 1, 1) := by decide +kernel
theorem dX3_holds_10 : decode cX3_holds 10 = .ok (.goto 4, 3) := by decide +kernel
theorem dX3_holds_13 : decode cX3_holds 13 = .ok (.iconst 0, 1) := by decide +kernel
theorem dX3_holds_14 : decode cX3_holds 14 = .ok (.ireturn, 1) := by decide +kernel
theorem dX3_at_0 : decode cX3_at 0 = .ok (.iload_n 1, 1) := by decide +kernel
theorem dX3_at_1 : decode cX3_at 1 = .ok (.ifCond .lt 20, 3) := by decide +kernel
theorem dX3_at_4 : decode cX3_at 4 = .ok (.iload_n 1, 1) := by decide +kernel
theorem dX3_at_5 : decode cX3_at 5 = .ok (.aload_n 0, 1) := by decide +kernel
theorem dX3_at_6 : decode cX3_at 6 = .ok (.getfield 22, 3) := by decide +kernel
theorem dX3_at_9 : decode cX3_at 9 = .ok (.if_icmp .ge 12, 3) := by decide +kernel
theorem dX3_at_12 : decode cX3_at 12 = .ok (.iload_n 1, 1) := by decide +kernel
theorem dX3_at_13 : decode cX3_at 13 = .ok (.aload_n 0, 1) := by decide +kernel
theorem dX3_at_14 : decode cX3_at 14 = .ok (.getfield 9, 3) := by decide +kernel
theorem dX3_at_17 : decode cX3_at 17 = .ok (.arraylength, 1) := by decide +kernel
theorem dX3_at_18 : decode cX3_at 18 = .ok (.if_icmp .lt 7, 3) := by decide +kernel
theorem dX3_at_21 : decode cX3_at 21 = .ok (.iconst (-1), 1) := by decide +kernel
theorem dX3_at_22 : decode cX3_at 22 = .ok (.goto 9, 3) := by decide +kernel
theorem dX3_at_25 : decode cX3_at 25 = .ok (.aload_n 0, 1) := by decide +kernel
theorem dX3_at_26 : decode cX3_at 26 = .ok (.getfield 9, 3) := by decide +kernel
theorem dX3_at_29 : decode cX3_at 29 = .ok (.iload_n 1, 1) := by decide +kernel
theorem dX3_at_30 : decode cX3_at 30 = .ok (.iaload, 1) := by decide +kernel
theorem dX3_at_31 : decode cX3_at 31 = .ok (.ireturn, 1) := by decide +kernel
theorem dX3_empty_0 : decode cX3_empty 0 = .ok (.aload_n 0, 1) := by decide +kernel
theorem dX3_empty_1 : decode cX3_empty 1 = .ok (.iconst 0, 1) := by decide +kernel
theorem dX3_empty_2 : decode cX3_empty 2 = .ok (.putfield 22, 3) := by decide +kernel
theorem dX3_empty_5 : decode cX3_empty 5 = .ok (.return_, 1) := by decide +kernel
set_option maxRecDepth 20000 in
theorem ggX3_insert_X3_isFull : GoodIn wsX3_insert wsX3_isFull := goodIn_r _ [7, 1, 2, 8, 9, 10] (by decide +kernel) (by decide +kernel)
set_option maxRecDepth 20000 in
theorem gX3_insert_X3_isFull : GoodIn wsX3_insert (wsV RX3 30 RX3 yX3_isFull wsX3_isFull) := goodIn_app (goodIn_of _ (by decide +kernel)) ggX3_insert_X3_isFull
theorem dX3_insert_0 : decode cX3_insert 0 = .ok (.aload_n 0, 1) := by decide +kernel
theorem dX3_insert_1 : decode cX3_insert 1 = .ok (.invokevirtual 30, 3) := by decide +kernel
theorem dX3_insert_4 : decode cX3_insert 4 = .ok (.ifCond .eq 4, 3) := by decide +kernel
theorem dX3_insert_7 : decode cX3_insert 7 = .ok (.return_, 1) := by decide +kernel
theorem dX3_insert_8 : decode cX3_insert 8 = .ok (.aload_n 0, 1) := by decide +kernel
theorem dX3_insert_9 : decode cX3_insert 9 = .ok (.getfield 22, 3) := by decide +kernel
theorem dX3_insert_12 : decode cX3_insert 12 = .ok (.istore_n 2, 1) := by decide +kernel
theorem dX3_insert_13 : decode cX3_insert 13 = .ok (.iload_n 2, 1) := by decide +kernel
theorem dX3_insert_14 : decode cX3_insert 14 = .ok (.ifCond .le 35, 3) := by decide +kernel
theorem dX3_insert_17 : decode cX3_insert 17 = .ok (.aload_n 0, 1) := by decide +kernel
theorem dX3_insert_18 : decode cX3_insert 18 = .ok (.getfield 9, 3) := by decide +kernel
theorem dX3_insert_21 : decode cX3_insert 21 = .ok (.iload_n 2, 1) := by decide +kernel
theorem dX3_insert_22 : decode cX3_insert 22 = .ok (.iconst 1, 1) := by decide +kernel
theorem dX3_insert_23 : decode cX3_insert 23 = .ok (.isub, 1) := by decide +kernel
theorem dX3_insert_24 : decode cX3_insert 24 = .ok (.iaload, 1) := by decide +kernel
theorem dX3_insert_25 : decode cX3_insert 25 = .ok (.iload_n 1, 1) := by decide +kernel
theorem dX3_insert_26 : decode cX3_insert 26 = .ok (.if_icmp .le 23, 3) := by decide +kernel
theorem dX3_insert_29 : decode cX3_insert 29 = .ok (.aload_n 0, 1) := by decide +kernel
theorem dX3_insert_30 : decode cX3_insert 30 = .ok (.getfield 9, 3) := by decide +kernel
theorem dX3_insert_33 : decode cX3_insert 33 = .ok (.iload_n 2, 1) := by decide +kernel
theorem dX3_insert_34 : decode cX3_insert 34 = .ok (.aload_n 0, 1) := by decide +kernel
theorem dX3_insert_35 : decode cX3_insert 35 = .ok (.getfield 9, 3) := by decide +kernel
theorem dX3_insert_38 : decode cX3_insert 38 = .ok (.iload_n 2, 1) := by decide +kernel
theorem dX3_insert_39 : decode cX3_insert 39 = .ok (.iconst 1, 1) := by decide +kernel
theorem dX3_insert_40 : decode cX3_insert 40 = .ok (.isub, 1) := by decide +kernel
theorem dX3_insert_41 : decode cX3_insert 41 = .ok (.iaload, 1) := by decide +kernel
theorem dX3_insert_42 : decode cX3_insert 42 = .ok (.iastore, 1) := by decide +kernel
theorem dX3_insert_43 : decode cX3_insert 43 = .ok (.iinc 2 (-1), 3) := by decide +kernel
theorem dX3_insert_46 : decode cX3_insert 46 = .ok (.goto (-33), 3) := by decide +kernel
theorem dX3_insert_49 : decode cX3_insert 49 = .ok (.aload_n 0, 1) := by decide +kernel
theorem dX3_insert_50 : decode cX3_insert 50 = .ok (.getfield 9, 3) := by decide +kernel
theorem dX3_insert_53 : decode cX3_insert 53 = .ok (.iload_n 2, 1) := by decide +kernel
theorem dX3_insert_54 : decode cX3_insert 54 = .ok (.iload_n 1, 1) := by decide +kernel
theorem dX3_insert_55 : decode cX3_insert 55 = .ok (.iastore, 1) := by decide +kernel
theorem dX3_insert_56 : decode cX3_insert 56 = .ok (.aload_n 0, 1) := by decide +kernel
theorem dX3_insert_57 : decode cX3_insert 57 = .ok (.dup, 1) := by decide +kernel
theorem dX3_insert_58 : decode cX3_insert 58 = .ok (.getfield 22, 3) := by decide +kernel
theorem dX3_insert_61 : decode cX3_insert 61 = .ok (.iconst 1, 1) := by decide +kernel
theorem dX3_insert_62 : decode cX3_insert 62 = .ok (.iadd, 1) := by decide +kernel
theorem dX3_insert_63 : decode cX3_insert 63 = .ok (.putfield 22, 3) := by decide +kernel
theorem dX3_insert_66 : decode cX3_insert 66 = .ok (.return_, 1) := by decide +kernel
set_option maxRecDepth 20000 in
theorem ggX3_remove_X3_placeOf : GoodIn wsX3_remove wsX3_placeOf := goodIn_r _ [7, 1, 2, 8, 9, 10] (by decide +kernel) (by decide +kernel)
set_option maxRecDepth 20000 in
theorem gX3_remove_X3_placeOf : GoodIn wsX3_remove (wsV RX3 26 RX3 yX3_placeOf wsX3_placeOf) := goodIn_app (goodIn_of _ (by decide +kernel)) ggX3_remove_X3_placeOf
theorem dX3_remove_0 : decode cX3_remove 0 = .ok (.aload_n 0, 1) := by decide +kernel
theorem dX3_remove_1 : decode cX3_remove 1 = .ok (.iload_n 1, 1) := by decide +kernel
theorem dX3_remove_2 : decode cX3_remove 2 = .ok (.invokevirtual 26, 3) := by decide +kernel
theorem dX3_remove_5 : decode cX3_remove 5 = .ok (.istore_n 2, 1) := by decide +kernel
theorem dX3_remove_6 : decode cX3_remove 6 = .ok (.iload_n 2, 1) := by decide +kernel
theorem dX3_remove_7 : decode cX3_remove 7 = .ok (.iconst (-1), 1) := by decide +kernel
theorem dX3_remove_8 : decode cX3_remove 8 = .ok (.if_icmp .ne 4, 3) := by decide +kernel
theorem dX3_remove_11 : decode cX3_remove 11 = .ok (.return_, 1) := by decide +kernel
theorem dX3_remove_12 : decode cX3_remove 12 = .ok (.iload_n 2, 1) := by decide +kernel
theorem dX3_remove_13 : decode cX3_remove 13 = .ok (.istore_n 3, 1) := by decide +kernel
theorem dX3_remove_14 : decode cX3_remove 14 = .ok (.iload_n 3, 1) := by decide +kernel
theorem dX3_remove_15 : decode cX3_remove 15 = .ok (.iconst 1, 1) := by decide +kernel
theorem dX3_remove_16 : decode cX3_remove 16 = .ok (.iadd, 1) := by decide +kernel
theorem dX3_remove_17 : decode cX3_remove 17 = .ok (.aload_n 0, 1) := by decide +kernel
theorem dX3_remove_18 : decode cX3_remove 18 = .ok (.getfield 22, 3) := by decide +kernel
theorem dX3_remove_21 : decode cX3_remove 21 = .ok (.if_icmp .ge 23, 3) := by decide +kernel
theorem dX3_remove_24 : decode cX3_remove 24 = .ok (.aload_n 0, 1) := by decide +kernel
theorem dX3_remove_25 : decode cX3_remove 25 = .ok (.getfield 9, 3) := by decide +kernel
theorem dX3_remove_28 : decode cX3_remove 28 = .ok (.iload_n 3, 1) := by decide +kernel
theorem dX3_remove_29 : decode cX3_remove 29 = .ok (.aload_n 0, 1) := by decide +kernel
theorem dX3_remove_30 : decode cX3_remove 30 = .ok (.getfield 9, 3) := by decide +kernel
theorem dX3_remove_33 : decode cX3_remove 33 = .ok (.iload_n 3, 1) := by decide +kernel
theorem dX3_remove_34 : decode cX3_remove 34 = .ok (.iconst 1, 1) := by decide +kernel
theorem dX3_remove_35 : decode cX3_remove 35 = .ok (.iadd, 1) := by decide +kernel
theorem dX3_remove_36 : decode cX3_remove 36 = .ok (.iaload, 1) := by decide +kernel
theorem dX3_remove_37 : decode cX3_remove 37 = .ok (.iastore, 1) := by decide +kernel
theorem dX3_remove_38 : decode cX3_remove 38 = .ok (.iinc 3 1, 3) := by decide +kernel
theorem dX3_remove_41 : decode cX3_remove 41 = .ok (.goto (-27), 3) := by decide +kernel
theorem dX3_remove_44 : decode cX3_remove 44 = .ok (.aload_n 0, 1) := by decide +kernel
theorem dX3_remove_45 : decode cX3_remove 45 = .ok (.dup, 1) := by decide +kernel
theorem dX3_remove_46 : decode cX3_remove 46 = .ok (.getfield 22, 3) := by decide +kernel
theorem dX3_remove_49 : decode cX3_remove 49 = .ok (.iconst 1, 1) := by decide +kernel
theorem dX3_remove_50 : decode cX3_remove 50 = .ok (.isub, 1) := by decide +kernel
theorem dX3_remove_51 : decode cX3_remove 51 = .ok (.putfield 22, 3) := by decide +kernel
theorem dX3_remove_54 : decode cX3_remove 54 = .ok (.return_, 1) := by decide +kernel
set_option maxRecDepth 20000 in
theorem ggX3_total_X1_become : GoodIn wsX3_total wsX1_become := goodIn_r _ [9, 10, 11, 12, 13, 8, 14, 22, 23] (by decide +kernel) (by decide +kernel)
set_option maxRecDepth 20000 in
theorem gX3_total_X1_become : GoodIn wsX3_total (wsV RX3 34 RX1 yX1_become wsX1_become) := goodIn_app (goodIn_of _ (by decide +kernel)) ggX3_total_X1_become
set_option maxRecDepth 20000 in
theorem ggX3_total_X1_addShare : GoodIn wsX3_total wsX1_addShare := goodIn_r _ [18, 11, 10, 12, 13, 8, 14, 22, 23] (by decide +kernel) (by decide +kernel)
set_option maxRecDepth 20000 in
theorem gX3_total_X1_addShare : GoodIn wsX3_total (wsV RX3 42 RX1 yX1_addShare wsX1_addShare) := goodIn_app (goodIn_of _ (by decide +kernel)) ggX3_total_X1_addShare
theorem dX3_total_0 : decode cX3_total 0 = .ok (.aload_n 0, 1) := by decide +kernel
theorem dX3_total_1 : decode cX3_total 1 = .ok (.getfield 18, 3) := by decide +kernel
theorem dX3_total_4 : decode cX3_total 4 = .ok (.lconst 0, 1) := by decide +kernel
theorem dX3_total_5 : decode cX3_total 5 = .ok (.lconst 1, 1) := by decide +kernel
theorem dX3_total_6 : decode cX3_total 6 = .ok (.invokevirtual 34, 3) := by decide +kernel
theorem dX3_total_9 : decode cX3_total 9 = .ok (.iconst 0, 1) := by decide +kernel
theorem dX3_total_10 : decode cX3_total 10 = .ok (.istore_n 1, 1) := by decide +kernel
theorem dX3_total_11 : decode cX3_total 11 = .ok (.iload_n 1, 1) := by decide +kernel
theorem dX3_total_12 : decode cX3_total 12 = .ok (.aload_n 0, 1) := by decide +kernel
theorem dX3_total_13 : decode cX3_total 13 = .ok (.getfield 22, 3) := by decide +kernel
theorem dX3_total_16 : decode cX3_total 16 = .ok (.if_icmp .ge 28, 3) := by decide +kernel
theorem dX3_total_19 : decode cX3_total 19 = .ok (.aload_n 0, 1) := by decide +kernel
theorem dX3_total_20 : decode cX3_total 20 = .ok (.getfield 18, 3) := by decide +kernel
theorem dX3_total_23 : decode cX3_total 23 = .ok (.iconst 1, 1) := by decide +kernel
theorem dX3_total_24 : decode cX3_total 24 = .ok (.aload_n 0, 1) := by decide +kernel
theorem dX3_total_25 : decode cX3_total 25 = .ok (.getfield 9, 3) := by decide +kernel
theorem dX3_total_28 : decode cX3_total 28 = .ok (.iload_n 1, 1) := by decide +kernel
theorem dX3_total_29 : decode cX3_total 29 = .ok (.iaload, 1) := by decide +kernel
theorem dX3_total_30 : decode cX3_total 30 = .ok (.i2l, 1) := by decide +kernel
theorem dX3_total_31 : decode cX3_total 31 = .ok (.ldc2_w 40, 3) := by decide +kernel
theorem dX3_total_34 : decode cX3_total 34 = .ok (.invokevirtual 42, 3) := by decide +kernel
theorem dX3_total_37 : decode cX3_total 37 = .ok (.pop, 1) := by decide +kernel
theorem dX3_total_38 : decode cX3_total 38 = .ok (.iinc 1 1, 3) := by decide +kernel
theorem dX3_total_41 : decode cX3_total 41 = .ok (.goto (-30), 3) := by decide +kernel
theorem dX3_total_44 : decode cX3_total 44 = .ok (.aload_n 0, 1) := by decide +kernel
theorem dX3_total_45 : decode cX3_total 45 = .ok (.getfield 18, 3) := by decide +kernel
theorem dX3_total_48 : decode cX3_total 48 = .ok (.areturn, 1) := by decide +kernel
theorem dX3_placeOf_0 : decode cX3_placeOf 0 = .ok (.iconst 0, 1) := by decide +kernel
theorem dX3_placeOf_1 : decode cX3_placeOf 1 = .ok (.istore_n 2, 1) := by decide +kernel
theorem dX3_placeOf_2 : decode cX3_placeOf 2 = .ok (.iload_n 2, 1) := by decide +kernel
theorem dX3_placeOf_3 : decode cX3_placeOf 3 = .ok (.aload_n 0, 1) := by decide +kernel
theorem dX3_placeOf_4 : decode cX3_placeOf 4 = .ok (.getfield 22, 3) := by decide +kernel
theorem dX3_placeOf_7 : decode cX3_placeOf 7 = .ok (.if_icmp .ge 21, 3) := by decide +kernel
theorem dX3_placeOf_10 : decode cX3_placeOf 10 = .ok (.aload_n 0, 1) := by decide +kernel
theorem dX3_placeOf_11 : decode cX3_placeOf 11 = .ok (.getfield 9, 3) := by decide +kernel
theorem dX3_placeOf_14 : decode cX3_placeOf 14 = .ok (.iload_n 2, 1) := by decide +kernel
theorem dX3_placeOf_15 : decode cX3_placeOf 15 = .ok (.iaload, 1) := by decide +kernel
theorem dX3_placeOf_16 : decode cX3_placeOf 16 = .ok (.iload_n 1, 1) := by decide +kernel
theorem dX3_placeOf_17 : decode cX3_placeOf 17 = .ok (.if_icmp .ne 5, 3) := by decide +kernel
theorem dX3_placeOf_20 : decode cX3_placeOf 20 = .ok (.iload_n 2, 1) := by decide +kernel
theorem dX3_placeOf_21 : decode cX3_placeOf 21 = .ok (.ireturn, 1) := by decide +kernel
theorem dX3_placeOf_22 : decode cX3_placeOf 22 = .ok (.iinc 2 1, 3) := by decide +kernel
theorem dX3_placeOf_25 : decode cX3_placeOf 25 = .ok (.goto (-23), 3) := by decide +kernel
theorem dX3_placeOf_28 : decode cX3_placeOf 28 = .ok (.iconst (-1), 1) := by decide +kernel
theorem dX3_placeOf_29 : decode cX3_placeOf 29 = .ok (.ireturn, 1) := by decide +kernel
set_option maxRecDepth 20000 in
theorem ggX4_init_X1_init : GoodIn wsX4_init wsX1_init := goodIn_r _ [17, 18, 2, 3, 19, 20, 35, 36] (by decide +kernel) (by decide +kernel)
set_option maxRecDepth 20000 in
theorem gX4_init_X1_init : GoodIn wsX4_init (wsX1_init) := ggX4_init_X1_init
theorem dX4_init_0 : decode cX4_init 0 = .ok (.aload_n 0, 1) := by decide +kernel
theorem dX4_init_1 : decode cX4_init 1 = .ok (.invokespecial 3, 3) := by decide +kernel
theorem dX4_init_4 : decode cX4_init 4 = .ok (.aload_n 0, 1) := by decide +kernel
theorem dX4_init_5 : decode cX4_init 5 = .ok (.bipush 121, 2) := by decide +kernel
theorem dX4_init_7 : decode cX4_init 7 = .ok (.newarray .boolean, 2) := by decide +kernel
theorem dX4_init_9 : decode cX4_init 9 = .ok (.putfield 9, 3) := by decide +kernel
theorem dX4_init_12 : decode cX4_init 12 = .ok (.aload_n 0, 1) := by decide +kernel
theorem dX4_init_13 : decode cX4_init 13 = .ok (.bipush 120, 2) := by decide +kernel
theorem dX4_init_15 : decode cX4_init 15 = .ok (.newarray .int, 2) := by decide +kernel
theorem dX4_init_17 : decode cX4_init 17 = .ok (.putfield 15, 3) := by decide +kernel
theorem dX4_init_20 : decode cX4_init 20 = .ok (.aload_n 0, 1) := by decide +kernel
theorem dX4_init_21 : decode cX4_init 21 = .ok (.bipush 121, 2) := by decide +kernel
theorem dX4_init_23 : decode cX4_init 23 = .ok (.newarray .int, 2) := by decide +kernel
theorem dX4_init_25 : decode cX4_init 25 = .ok (.putfield 19, 3) := by decide +kernel
theorem dX4_init_28 : decode cX4_init 28 = .ok (.aload_n 0, 1) := by decide +kernel
theorem dX4_init_29 : decode cX4_init 29 = .ok (.iconst 5, 1) := by decide +kernel
theorem dX4_init_30 : decode cX4_init 30 = .ok (.newarray .int, 2) := by decide +kernel
theorem dX4_init_32 : decode cX4_init 32 = .ok (.putfield 22, 3) := by decide +kernel
theorem dX4_init_35 : decode cX4_init 35 = .ok (.aload_n 0, 1) := by decide +kernel
theorem dX4_init_36 : decode cX4_init 36 = .ok (.iconst 5, 1) := by decide +kernel
theorem dX4_init_37 : decode cX4_init 37 = .ok (.newarray .int, 2) := by decide +kernel
theorem dX4_init_39 : decode cX4_init 39 = .ok (.putfield 25, 3) := by decide +kernel
theorem dX4_init_42 : decode cX4_init 42 = .ok (.aload_n 0, 1) := by decide +kernel
theorem dX4_init_43 : decode cX4_init 43 = .ok (.new 28, 3) := by decide +kernel
theorem dX4_init_46 : decode cX4_init 46 = .ok (.dup, 1) := by decide +kernel
theorem dX4_init_47 : decode cX4_init 47 = .ok (.invokespecial 30, 3) := by decide +kernel
theorem dX4_init_50 : decode cX4_init 50 = .ok (.putfield 31, 3) := by decide +kernel
theorem dX4_init_53 : decode cX4_init 53 = .ok (.return_, 1) := by decide +kernel
set_option maxRecDepth 20000 in
theorem ggX4_prepare_X1_become : GoodIn wsX4_prepare wsX1_become := goodIn_r _ [8, 9, 10, 11, 12, 7, 13, 55, 56] (by decide +kernel) (by decide +kernel)
set_option maxRecDepth 20000 in
theorem gX4_prepare_X1_become : GoodIn wsX4_prepare (wsV RX4 35 RX1 yX1_become wsX1_become) := goodIn_app (goodIn_of _ (by decide +kernel)) ggX4_prepare_X1_become
set_option maxRecDepth 20000 in
theorem ggX4_prepare_X5_fits : GoodIn wsX4_prepare wsX5_fits := goodIn_r _ [17, 18, 19, 16, 20, 21, 22, 23, 24, 25, 26] (by decide +kernel) (by decide +kernel)
set_option maxRecDepth 20000 in
theorem gX4_prepare_X5_fits : GoodIn wsX4_prepare (va_wsS RX4 43 yX5_fits wsX5_fits) := goodIn_app (goodIn_of _ (by decide +kernel)) ggX4_prepare_X5_fits
set_option maxRecDepth 20000 in
theorem ggX4_prepare_X4_leaveOutLonely : GoodIn wsX4_prepare wsX4_leaveOutLonely := goodIn_r _ [31, 32, 1, 33, 3, 41, 42, 43, 44, 45, 46, 47, 48, 49, 50, 51, 52, 53, 54, 55, 56] (by decide +kernel) (by decide +kernel)
set_option maxRecDepth 20000 in
theorem gX4_prepare_X4_leaveOutLonely : GoodIn wsX4_prepare (wsV RX4 49 RX4 yX4_leaveOutLonely wsX4_leaveOutLonely) := goodIn_app (goodIn_of _ (by decide +kernel)) ggX4_prepare_X4_leaveOutLonely
set_option maxRecDepth 20000 in
theorem ggX4_prepare_X4_listUsable : GoodIn wsX4_prepare wsX4_listUsable := goodIn_r _ [37, 38, 3, 39, 40, 41, 42, 43, 44, 45, 46, 47, 48, 49, 50, 51, 52, 53, 54] (by decide +kernel) (by decide +kernel)
set_option maxRecDepth 20000 in
theorem gX4_prepare_X4_listUsable : GoodIn wsX4_prepare (wsV RX4 52 RX4 yX4_listUsable wsX4_listUsable) := goodIn_app (goodIn_of _ (by decide +kernel)) ggX4_prepare_X4_listUsable
theorem dX4_prepare_0 : decode cX4_prepare 0 = .ok (.aload_n 0, 1) := by decide +kernel
theorem dX4_prepare_1 : decode cX4_prepare 1 = .ok (.getfield 31, 3) := by decide +kernel
theorem dX4_prepare_4 : decode cX4_prepare 4 = .ok (.iload_n 1, 1) := by decide +kernel
theorem dX4_prepare_5 : decode cX4_prepare 5 = .ok (.i2l, 1) := by decide +kernel
theorem dX4_prepare_6 : decode cX4_prepare 6 = .ok (.iload_n 2, 1) := by decide +kernel
theorem dX4_prepare_7 : decode cX4_prepare 7 = .ok (.i2l, 1) := by decide +kernel
theorem dX4_prepare_8 : decode cX4_prepare 8 = .ok (.invokevirtual 35, 3) := by decide +kernel
theorem dX4_prepare_11 : decode cX4_prepare 11 = .ok (.aload_n 0, 1) := by decide +kernel
theorem dX4_prepare_12 : decode cX4_prepare 12 = .ok (.iload 4, 2) := by decide +kernel
theorem dX4_prepare_14 : decode cX4_prepare 14 = .ok (.putfield 39, 3) := by decide +kernel
theorem dX4_prepare_17 : decode cX4_prepare 17 = .ok (.iconst 0, 1) := by decide +kernel
theorem dX4_prepare_18 : decode cX4_prepare 18 = .ok (.istore 6, 2) := by decide +kernel
theorem dX4_prepare_20 : decode cX4_prepare 20 = .ok (.iload 6, 2) := by decide +kernel
theorem dX4_prepare_22 : decode cX4_prepare 22 = .ok (.aload_n 0, 1) := by decide +kernel
theorem dX4_prepare_23 : decode cX4_prepare 23 = .ok (.getfield 9, 3) := by decide +kernel
theorem dX4_prepare_26 : decode cX4_prepare 26 = .ok (.arraylength, 1) := by decide +kernel
theorem dX4_prepare_27 : decode cX4_prepare 27 = .ok (.if_icmp .ge 59, 3) := by decide +kernel
theorem dX4_prepare_30 : decode cX4_prepare 30 = .ok (.aload_n 0, 1) := by decide +kernel
theorem dX4_prepare_31 : decode cX4_prepare 31 = .ok (.getfield 9, 3) := by decide +kernel
theorem dX4_prepare_34 : decode cX4_prepare 34 = .ok (.iload 6, 2) := by decide +kernel
theorem dX4_prepare_36 : decode cX4_prepare 36 = .ok (.iload 6, 2) := by decide +kernel
theorem dX4_prepare_38 : decode cX4_prepare 38 = .ok (.iconst 2, 1) := by decide +kernel
theorem dX4_prepare_39 : decode cX4_prepare 39 = .ok (.if_icmp .lt 39, 3) := by decide +kernel
theorem dX4_prepare_42 : decode cX4_prepare 42 = .ok (.iload 6, 2) := by decide +kernel
theorem dX4_prepare_44 : decode cX4_prepare 44 = .ok (.iload 4, 2) := by decide +kernel
theorem dX4_prepare_46 : decode cX4_prepare 46 = .ok (.if_icmp .gt 32, 3) := by decide +kernel
theorem dX4_prepare_49 : decode cX4_prepare 49 = .ok (.iload 6, 2) := by decide +kernel
theorem dX4_prepare_51 : decode cX4_prepare 51 = .ok (.aload 5, 2) := by decide +kernel
theorem dX4_prepare_53 : decode cX4_prepare 53 = .ok (.arraylength, 1) := by decide +kernel
theorem dX4_prepare_54 : decode cX4_prepare 54 = .ok (.if_icmp .ge 24, 3) := by decide +kernel
theorem dX4_prepare_57 : decode cX4_prepare 57 = .ok (.aload 5, 2) := by decide +kernel
theorem dX4_prepare_59 : decode cX4_prepare 59 = .ok (.iload 6, 2) := by decide +kernel
theorem dX4_prepare_61 : decode cX4_prepare 61 = .ok (.baload, 1) := by decide +kernel
theorem dX4_prepare_62 : decode cX4_prepare 62 = .ok (.ifCond .ne 16, 3) := by decide +kernel
theorem dX4_prepare_65 : decode cX4_prepare 65 = .ok (.iload 6, 2) := by decide +kernel
theorem dX4_prepare_67 : decode cX4_prepare 67 = .ok (.iload_n 3, 1) := by decide +kernel
theorem dX4_prepare_68 : decode cX4_prepare 68 = .ok (.invokestatic 43, 3) := by decide +kernel
theorem dX4_prepare_71 : decode cX4_prepare 71 = .ok (.ifCond .eq 7, 3) := by decide +kernel
theorem dX4_prepare_74 : decode cX4_prepare 74 = .ok (.iconst 1, 1) := by decide +kernel
theorem dX4_prepare_75 : decode cX4_prepare 75 = .ok (.goto 4, 3) := by decide +kernel
theorem dX4_prepare_78 : decode cX4_prepare 78 = .ok (.iconst 0, 1) := by decide +kernel
theorem dX4_prepare_79 : decode cX4_prepare 79 = .ok (.bastore, 1) := by decide +kernel
theorem dX4_prepare_80 : decode cX4_prepare 80 = .ok (.iinc 6 1, 3) := by decide +kernel
theorem dX4_prepare_83 : decode cX4_prepare 83 = .ok (.goto (-63), 3) := by decide +kernel
theorem dX4_prepare_86 : decode cX4_prepare 86 = .ok (.aload_n 0, 1) := by decide +kernel
theorem dX4_prepare_87 : decode cX4_prepare 87 = .ok (.invokevirtual 49, 3) := by decide +kernel
theorem dX4_prepare_90 : decode cX4_prepare 90 = .ok (.aload_n 0, 1) := by decide +kernel
theorem dX4_prepare_91 : decode cX4_prepare 91 = .ok (.invokevirtual 52, 3) := by decide +kernel
theorem dX4_prepare_94 : decode cX4_prepare 94 = .ok (.return_, 1) := by decide +kernel
set_option maxRecDepth 20000 in
theorem ggX4_countRows_X4_seekAll : GoodIn wsX4_countRows wsX4_seekAll := goodIn_r _ [6, 1, 7, 8, 9, 10, 11, 12, 13, 14, 15, 16, 17, 18, 19, 5, 20, 21, 22, 23, 24, 25, 26, 27, 28, 29, 30, 31, 32, 33, 34, 35, 36, 37, 38, 39, 40, 41, 42, 43, 44, 45, 46, 47, 48, 49, 50, 51, 52, 53, 54, 55, 56, 57, 58, 59, 60, 61, 62, 63, 64, 65] (by decide +kernel) (by decide +kernel)
set_option maxRecDepth 20000 in
theorem gX4_countRows_X4_seekAll : GoodIn wsX4_countRows (wsV RX4 55 RX4 yX4_seekAll wsX4_seekAll) := goodIn_app (goodIn_of _ (by decide +kernel)) ggX4_countRows_X4_seekAll
theorem dX4_countRows_0 : decode cX4_countRows 0 = .ok (.aload_n 0, 1) := by decide +kernel
theorem dX4_countRows_1 : decode cX4_countRows 1 = .ok (.iload_n 1, 1) := by decide +kernel
theorem dX4_countRows_2 : decode cX4_countRows 2 = .ok (.iconst (-1), 1) := by decide +kernel
theorem dX4_countRows_3 : decode cX4_countRows 3 = .ok (.iconst 0, 1) := by decide +kernel
theorem dX4_countRows_4 : decode cX4_countRows 4 = .ok (.invokevirtual 55, 3) := by decide +kernel
theorem dX4_countRows_7 : decode cX4_countRows 7 = .ok (.aload_n 0, 1) := by decide +kernel
theorem dX4_countRows_8 : decode cX4_countRows 8 = .ok (.getfield 59, 3) := by decide +kernel
theorem dX4_countRows_11 : decode cX4_countRows 11 = .ok (.ireturn, 1) := by decide +kernel
set_option maxRecDepth 20000 in
theorem ggX4_findRow_X4_seekAll : GoodIn wsX4_findRow wsX4_seekAll := goodIn_r _ [6, 7, 1, 8, 9, 10, 11, 12, 13, 14, 15, 16, 17, 18, 19, 5, 20, 21, 22, 23, 24, 25, 26, 27, 28, 29, 30, 31, 32, 33, 34, 35, 36, 37, 38, 39, 40, 41, 42, 43, 44, 45, 46, 47, 48, 49, 50, 51, 52, 53, 54, 55, 56, 57, 58, 59, 60, 61, 62, 63, 64, 65] (by decide +kernel) (by decide +kernel)
set_option maxRecDepth 20000 in
theorem gX4_findRow_X4_seekAll : GoodIn wsX4_findRow (wsV RX4 55 RX4 yX4_seekAll wsX4_seekAll) := goodIn_app (goodIn_of _ (by decide +kernel)) ggX4_findRow_X4_seekAll
theorem dX4_findRow_0 : decode cX4_findRow 0 = .ok (.iload_n 2, 1) := by decide +kernel
theorem dX4_findRow_1 : decode cX4_findRow 1 = .ok (.ifCond .ge 5, 3) := by decide +kernel
theorem dX4_findRow_4 : decode cX4_findRow 4 = .ok (.iconst 0, 1) := by decide +kernel
theorem dX4_findRow_5 : decode cX4_findRow 5 = .ok (.ireturn, 1) := by decide +kernel
theorem dX4_findRow_6 : decode cX4_findRow 6 = .ok (.aload_n 0, 1) := by decide +kernel
theorem dX4_findRow_7 : decode cX4_findRow 7 = .ok (.iload_n 1, 1) := by decide +kernel
theorem dX4_findRow_8 : decode cX4_findRow 8 = .ok (.iload_n 2, 1) := by decide +kernel
theorem dX4_findRow_9 : decode cX4_findRow 9 = .ok (.iconst 0, 1) := by decide +kernel
theorem dX4_findRow_10 : decode cX4_findRow 10 = .ok (.invokevirtual 55, 3) := by decide +kernel
theorem dX4_findRow_13 : decode cX4_findRow 13 = .ok (.aload_n 0, 1) := by decide +kernel
theorem dX4_findRow_14 : decode cX4_findRow 14 = .ok (.getfield 62, 3) := by decide +kernel
theorem dX4_findRow_17 : decode cX4_findRow 17 = .ok (.ireturn, 1) := by decide +kernel
set_option maxRecDepth 20000 in
theorem ggX4_findSmallest_X4_seekAll : GoodIn wsX4_findSmallest wsX4_seekAll := goodIn_r _ [6, 1, 7, 8, 9, 10, 11, 12, 13, 14, 15, 16, 17, 18, 19, 5, 20, 21, 22, 23, 24, 25, 26, 27, 28, 29, 30, 31, 32, 33, 34, 35, 36, 37, 38, 39, 40, 41, 42, 43, 44, 45, 46, 47, 48, 49, 50, 51, 52, 53, 54, 55, 56, 57, 58, 59, 60, 61, 62, 63, 64, 65] (by decide +kernel) (by decide +kernel)
set_option maxRecDepth 20000 in
theorem gX4_findSmallest_X4_seekAll : GoodIn wsX4_findSmallest (wsV RX4 55 RX4 yX4_seekAll wsX4_seekAll) := goodIn_app (goodIn_of _ (by decide +kernel)) ggX4_findSmallest_X4_seekAll
theorem dX4_findSmallest_0 : decode cX4_findSmallest 0 = .ok (.aload_n 0, 1) := by decide +kernel
theorem dX4_findSmallest_1 : decode cX4_findSmallest 1 = .ok (.iload_n 1, 1) := by decide +kernel
theorem dX4_findSmallest_2 : decode cX4_findSmallest 2 = .ok (.iconst (-1), 1) := by decide +kernel
theorem dX4_findSmallest_3 : decode cX4_findSmallest 3 = .ok (.iconst 1, 1) := by decide +kernel
theorem dX4_findSmallest_4 : decode cX4_findSmallest 4 = .ok (.invokevirtual 55, 3) := by decide +kernel
theorem dX4_findSmallest_7 : decode cX4_findSmallest 7 = .ok (.aload_n 0, 1) := by decide +kernel
theorem dX4_findSmallest_8 : decode cX4_findSmallest 8 = .ok (.getfield 59, 3) := by decide +kernel
theorem dX4_findSmallest_11 : decode cX4_findSmallest 11 = .ok (.ifCond .le 7, 3) := by decide +kernel
theorem dX4_findSmallest_14 : decode cX4_findSmallest 14 = .ok (.iconst 1, 1) := by decide +kernel
theorem dX4_findSmallest_15 : decode cX4_findSmallest 15 = .ok (.goto 4, 3) := by decide +kernel
theorem dX4_findSmallest_18 : decode cX4_findSmallest 18 = .ok (.iconst 0, 1) := by decide +kernel
theorem dX4_findSmallest_19 : decode cX4_findSmallest 19 = .ok (.ireturn, 1) := by decide +kernel
theorem dX4_foundAt_0 : decode cX4_foundAt 0 = .ok (.iload_n 1, 1) := by decide +kernel
theorem dX4_foundAt_1 : decode cX4_foundAt 1 = .ok (.ifCond .lt 12, 3) := by decide +kernel
theorem dX4_foundAt_4 : decode cX4_foundAt 4 = .ok (.iload_n 1, 1) := by decide +kernel
theorem dX4_foundAt_5 : decode cX4_foundAt 5 = .ok (.aload_n 0, 1) := by decide +kernel
theorem dX4_foundAt_6 : decode cX4_foundAt 6 = .ok (.getfield 25, 3) := by decide +kernel
theorem dX4_foundAt_9 : decode cX4_foundAt 9 = .ok (.arraylength, 1) := by decide +kernel
theorem dX4_foundAt_10 : decode cX4_foundAt 10 = .ok (.if_icmp .lt 7, 3) := by decide +kernel
theorem dX4_foundAt_13 : decode cX4_foundAt 13 = .ok (.iconst (-1), 1) := by decide +kernel
theorem dX4_foundAt_14 : decode cX4_foundAt 14 = .ok (.goto 9, 3) := by decide +kernel
theorem dX4_foundAt_17 : decode cX4_foundAt 17 = .ok (.aload_n 0, 1) := by decide +kernel
theorem dX4_foundAt_18 : decode cX4_foundAt 18 = .ok (.getfield 25, 3) := by decide +kernel
theorem dX4_foundAt_21 : decode cX4_foundAt 21 = .ok (.iload_n 1, 1) := by decide +kernel
theorem dX4_foundAt_22 : decode cX4_foundAt 22 = .ok (.iaload, 1) := by decide +kernel
theorem dX4_foundAt_23 : decode cX4_foundAt 23 = .ok (.ireturn, 1) := by decide +kernel
theorem dX4_leaveOutLonely_0 : decode cX4_leaveOutLonely 0 = .ok (.iconst 0, 1) := by decide +kernel
theorem dX4_leaveOutLonely_1 : decode cX4_leaveOutLonely 1 = .ok (.istore_n 1, 1) := by decide +kernel
theorem dX4_leaveOutLonely_2 : decode cX4_leaveOutLonely 2 = .ok (.iload_n 1, 1) := by decide +kernel
theorem dX4_leaveOutLonely_3 : decode cX4_leaveOutLonely 3 = .ok (.getstatic 66, 3) := by decide +kernel
