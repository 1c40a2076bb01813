set_option maxRecDepth 20000 in
theorem ggX7_split_X7_remove : GoodIn wsX7_split wsX7_remove := goodIn_r _ [11, 1, 7, 16, 17, 18, 19, 20, 21, 22, 23, 24, 25, 26, 27, 28, 29, 30, 31, 32, 33, 34, 35, 36, 37, 38] (by decide +kernel) (by decide +kernel)
set_option maxRecDepth 20000 in
theorem gX7_split_X7_remove : GoodIn wsX7_split (wsV RX7 125 RX7 yX7_remove wsX7_remove) := goodIn_app (goodIn_of _ (by decide +kernel)) ggX7_split_X7_remove
set_option maxRecDepth 20000 in
theorem ggX7_split_X7_insert : GoodIn wsX7_split wsX7_insert := goodIn_r _ [15, 1, 7, 16, 17, 18, 19, 20, 21, 22, 23, 24, 25, 26, 27, 28, 29, 30, 31, 32, 33, 34, 35, 36, 37, 38] (by decide +kernel) (by decide +kernel)
set_option maxRecDepth 20000 in
theorem gX7_split_X7_insert : GoodIn wsX7_split (wsV RX7 121 RX7 yX7_insert wsX7_insert) := goodIn_app (goodIn_of _ (by decide +kernel)) ggX7_split_X7_insert
theorem dX7_split_0 : decode cX7_split 0 = .ok (.aload_n 0, 1) := by decide +kernel
theorem dX7_split_1 : decode cX7_split 1 = .ok (.iload_n 1, 1) := by decide +kernel
theorem dX7_split_2 : decode cX7_split 2 = .ok (.invokevirtual 118, 3) := by decide +kernel
theorem dX7_split_5 : decode cX7_split 5 = .ok (.istore_n 2, 1) := by decide +kernel
theorem dX7_split_6 : decode cX7_split 6 = .ok (.iload_n 2, 1) := by decide +kernel
theorem dX7_split_7 : decode cX7_split 7 = .ok (.iconst (-1), 1) := by decide +kernel
theorem dX7_split_8 : decode cX7_split 8 = .ok (.if_icmp .ne 6, 3) := by decide +kernel
theorem dX7_split_11 : decode cX7_split 11 = .ok (.bipush (-101), 2) := by decide +kernel
theorem dX7_split_13 : decode cX7_split 13 = .ok (.ireturn, 1) := by decide +kernel
theorem dX7_split_14 : decode cX7_split 14 = .ok (.iload_n 1, 1) := by decide +kernel
theorem dX7_split_15 : decode cX7_split 15 = .ok (.iload_n 1, 1) := by decide +kernel
theorem dX7_split_16 : decode cX7_split 16 = .ok (.iconst 1, 1) := by decide +kernel
theorem dX7_split_17 : decode cX7_split 17 = .ok (.iadd, 1) := by decide +kernel
theorem dX7_split_18 : decode cX7_split 18 = .ok (.imul, 1) := by decide +kernel
theorem dX7_split_19 : decode cX7_split 19 = .ok (.istore_n 3, 1) := by decide +kernel
theorem dX7_split_20 : decode cX7_split 20 = .ok (.iload_n 3, 1) := by decide +kernel
theorem dX7_split_21 : decode cX7_split 21 = .ok (.sipush 1000, 3) := by decide +kernel
theorem dX7_split_24 : decode cX7_split 24 = .ok (.if_icmp .le 6, 3) := by decide +kernel
theorem dX7_split_27 : decode cX7_split 27 = .ok (.bipush (-102), 2) := by decide +kernel
theorem dX7_split_29 : decode cX7_split 29 = .ok (.ireturn, 1) := by decide +kernel
theorem dX7_split_30 : decode cX7_split 30 = .ok (.aload_n 0, 1) := by decide +kernel
theorem dX7_split_31 : decode cX7_split 31 = .ok (.iload_n 1, 1) := by decide +kernel
theorem dX7_split_32 : decode cX7_split 32 = .ok (.iconst 1, 1) := by decide +kernel
theorem dX7_split_33 : decode cX7_split 33 = .ok (.iadd, 1) := by decide +kernel
theorem dX7_split_34 : decode cX7_split 34 = .ok (.invokevirtual 118, 3) := by decide +kernel
theorem dX7_split_37 : decode cX7_split 37 = .ok (.iconst (-1), 1) := by decide +kernel
theorem dX7_split_38 : decode cX7_split 38 = .ok (.if_icmp .ne 12, 3) := by decide +kernel
theorem dX7_split_41 : decode cX7_split 41 = .ok (.aload_n 0, 1) := by decide +kernel
theorem dX7_split_42 : decode cX7_split 42 = .ok (.iload_n 3, 1) := by decide +kernel
theorem dX7_split_43 : decode cX7_split 43 = .ok (.invokevirtual 118, 3) := by decide +kernel
theorem dX7_split_46 : decode cX7_split 46 = .ok (.iconst (-1), 1) := by decide +kernel
theorem dX7_split_47 : decode cX7_split 47 = .ok (.if_icmp .eq 6, 3) := by decide +kernel
theorem dX7_split_50 : decode cX7_split 50 = .ok (.bipush (-103), 2) := by decide +kernel
theorem dX7_split_52 : decode cX7_split 52 = .ok (.ireturn, 1) := by decide +kernel
theorem dX7_split_53 : decode cX7_split 53 = .ok (.aload_n 0, 1) := by decide +kernel
theorem dX7_split_54 : decode cX7_split 54 = .ok (.getfield 91, 3) := by decide +kernel
theorem dX7_split_57 : decode cX7_split 57 = .ok (.iconst 5, 1) := by decide +kernel
theorem dX7_split_58 : decode cX7_split 58 = .ok (.if_icmp .ne 6, 3) := by decide +kernel
theorem dX7_split_61 : decode cX7_split 61 = .ok (.bipush (-104), 2) := by decide +kernel
theorem dX7_split_63 : decode cX7_split 63 = .ok (.ireturn, 1) := by decide +kernel
theorem dX7_split_64 : decode cX7_split 64 = .ok (.aload_n 0, 1) := by decide +kernel
theorem dX7_split_65 : decode cX7_split 65 = .ok (.iload_n 2, 1) := by decide +kernel
theorem dX7_split_66 : decode cX7_split 66 = .ok (.invokevirtual 125, 3) := by decide +kernel
theorem dX7_split_69 : decode cX7_split 69 = .ok (.aload_n 0, 1) := by decide +kernel
theorem dX7_split_70 : decode cX7_split 70 = .ok (.iload_n 1, 1) := by decide +kernel
theorem dX7_split_71 : decode cX7_split 71 = .ok (.iconst 1, 1) := by decide +kernel
theorem dX7_split_72 : decode cX7_split 72 = .ok (.iadd, 1) := by decide +kernel
theorem dX7_split_73 : decode cX7_split 73 = .ok (.invokevirtual 121, 3) := by decide +kernel
theorem dX7_split_76 : decode cX7_split 76 = .ok (.aload_n 0, 1) := by decide +kernel
theorem dX7_split_77 : decode cX7_split 77 = .ok (.iload_n 3, 1) := by decide +kernel
theorem dX7_split_78 : decode cX7_split 78 = .ok (.invokevirtual 121, 3) := by decide +kernel
theorem dX7_split_81 : decode cX7_split 81 = .ok (.iload_n 3, 1) := by decide +kernel
theorem dX7_split_82 : decode cX7_split 82 = .ok (.ireturn, 1) := by decide +kernel
set_option maxRecDepth 20000 in
theorem ggX7_join_X7_placeOf : GoodIn wsX7_join wsX7_placeOf := goodIn_r _ [5, 6, 7, 16, 17, 18, 19, 20, 21, 22, 23, 24, 25, 26, 27, 28, 29, 30, 31, 32, 33, 34, 35, 36, 37, 38] (by decide +kernel) (by decide +kernel)
set_option maxRecDepth 20000 in
theorem gX7_join_X7_placeOf : GoodIn wsX7_join (wsV RX7 118 RX7 yX7_placeOf wsX7_placeOf) := goodIn_app (goodIn_of _ (by decide +kernel)) ggX7_join_X7_placeOf
set_option maxRecDepth 20000 in
theorem ggX7_join_X7_remove : GoodIn wsX7_join wsX7_remove := goodIn_r _ [11, 6, 7, 16, 17, 18, 19, 20, 21, 22, 23, 24, 25, 26, 27, 28, 29, 30, 31, 32, 33, 34, 35, 36, 37, 38] (by decide +kernel) (by decide +kernel)
set_option maxRecDepth 20000 in
theorem gX7_join_X7_remove : GoodIn wsX7_join (wsV RX7 125 RX7 yX7_remove wsX7_remove) := goodIn_app (goodIn_of _ (by decide +kernel)) ggX7_join_X7_remove
set_option maxRecDepth 20000 in
theorem ggX7_join_X7_insert : GoodIn wsX7_join wsX7_insert := goodIn_r _ [15, 6, 7, 16, 17, 18, 19, 20, 21, 22, 23, 24, 25, 26, 27, 28, 29, 30, 31, 32, 33, 34, 35, 36, 37, 38] (by decide +kernel) (by decide +kernel)
set_option maxRecDepth 20000 in
theorem gX7_join_X7_insert : GoodIn wsX7_join (wsV RX7 121 RX7 yX7_insert wsX7_insert) := goodIn_app (goodIn_of _ (by decide +kernel)) ggX7_join_X7_insert
theorem dX7_join_0 : decode cX7_join 0 = .ok (.aload_n 0, 1) := by decide +kernel
theorem dX7_join_1 : decode cX7_join 1 = .ok (.iload_n 1, 1) := by decide +kernel
theorem dX7_join_2 : decode cX7_join 2 = .ok (.invokevirtual 118, 3) := by decide +kernel
theorem dX7_join_5 : decode cX7_join 5 = .ok (.iconst (-1), 1) := by decide +kernel
theorem dX7_join_6 : decode cX7_join 6 = .ok (.if_icmp .eq 12, 3) := by decide +kernel
theorem dX7_join_9 : decode cX7_join 9 = .ok (.aload_n 0, 1) := by decide +kernel
theorem dX7_join_10 : decode cX7_join 10 = .ok (.iload_n 2, 1) := by decide +kernel
theorem dX7_join_11 : decode cX7_join 11 = .ok (.invokevirtual 118, 3) := by decide +kernel
theorem dX7_join_14 : decode cX7_join 14 = .ok (.iconst (-1), 1) := by decide +kernel
theorem dX7_join_15 : decode cX7_join 15 = .ok (.if_icmp .ne 6, 3) := by decide +kernel
theorem dX7_join_18 : decode cX7_join 18 = .ok (.bipush (-101), 2) := by decide +kernel
theorem dX7_join_20 : decode cX7_join 20 = .ok (.ireturn, 1) := by decide +kernel
theorem dX7_join_21 : decode cX7_join 21 = .ok (.iload_n 1, 1) := by decide +kernel
theorem dX7_join_22 : decode cX7_join 22 = .ok (.iload_n 2, 1) := by decide +kernel
theorem dX7_join_23 : decode cX7_join 23 = .ok (.imul, 1) := by decide +kernel
theorem dX7_join_24 : decode cX7_join 24 = .ok (.iload_n 1, 1) := by decide +kernel
theorem dX7_join_25 : decode cX7_join 25 = .ok (.iload_n 2, 1) := by decide +kernel
theorem dX7_join_26 : decode cX7_join 26 = .ok (.iadd, 1) := by decide +kernel
theorem dX7_join_27 : decode cX7_join 27 = .ok (.idiv, 1) := by decide +kernel
theorem dX7_join_28 : decode cX7_join 28 = .ok (.istore_n 3, 1) := by decide +kernel
theorem dX7_join_29 : decode cX7_join 29 = .ok (.iload_n 1, 1) := by decide +kernel
theorem dX7_join_30 : decode cX7_join 30 = .ok (.iload_n 2, 1) := by decide +kernel
theorem dX7_join_31 : decode cX7_join 31 = .ok (.if_icmp .eq 18, 3) := by decide +kernel
theorem dX7_join_34 : decode cX7_join 34 = .ok (.iload_n 1, 1) := by decide +kernel
theorem dX7_join_35 : decode cX7_join 35 = .ok (.iload_n 2, 1) := by decide +kernel
theorem dX7_join_36 : decode cX7_join 36 = .ok (.imul, 1) := by decide +kernel
theorem dX7_join_37 : decode cX7_join 37 = .ok (.iload_n 1, 1) := by decide +kernel
theorem dX7_join_38 : decode cX7_join 38 = .ok (.iload_n 2, 1) := by decide +kernel
theorem dX7_join_39 : decode cX7_join 39 = .ok (.iadd, 1) := by decide +kernel
theorem dX7_join_40 : decode cX7_join 40 = .ok (.irem, 1) := by decide +kernel
theorem dX7_join_41 : decode cX7_join 41 = .ok (.ifCond .ne 8, 3) := by decide +kernel
theorem dX7_join_44 : decode cX7_join 44 = .ok (.iload_n 3, 1) := by decide +kernel
theorem dX7_join_45 : decode cX7_join 45 = .ok (.iconst 2, 1) := by decide +kernel
theorem dX7_join_46 : decode cX7_join 46 = .ok (.if_icmp .ge 6, 3) := by decide +kernel
theorem dX7_join_49 : decode cX7_join 49 = .ok (.bipush (-102), 2) := by decide +kernel
theorem dX7_join_51 : decode cX7_join 51 = .ok (.ireturn, 1) := by decide +kernel
theorem dX7_join_52 : decode cX7_join 52 = .ok (.aload_n 0, 1) := by decide +kernel
theorem dX7_join_53 : decode cX7_join 53 = .ok (.iload_n 3, 1) := by decide +kernel
theorem dX7_join_54 : decode cX7_join 54 = .ok (.invokevirtual 118, 3) := by decide +kernel
theorem dX7_join_57 : decode cX7_join 57 = .ok (.iconst (-1), 1) := by decide +kernel
theorem dX7_join_58 : decode cX7_join 58 = .ok (.if_icmp .eq 6, 3) := by decide +kernel
theorem dX7_join_61 : decode cX7_join 61 = .ok (.bipush (-103), 2) := by decide +kernel
theorem dX7_join_63 : decode cX7_join 63 = .ok (.ireturn, 1) := by decide +kernel
theorem dX7_join_64 : decode cX7_join 64 = .ok (.aload_n 0, 1) := by decide +kernel
theorem dX7_join_65 : decode cX7_join 65 = .ok (.aload_n 0, 1) := by decide +kernel
theorem dX7_join_66 : decode cX7_join 66 = .ok (.iload_n 1, 1) := by decide +kernel
theorem dX7_join_67 : decode cX7_join 67 = .ok (.invokevirtual 118, 3) := by decide +kernel
theorem dX7_join_70 : decode cX7_join 70 = .ok (.invokevirtual 125, 3) := by decide +kernel
theorem dX7_join_73 : decode cX7_join 73 = .ok (.aload_n 0, 1) := by decide +kernel
theorem dX7_join_74 : decode cX7_join 74 = .ok (.aload_n 0, 1) := by decide +kernel
theorem dX7_join_75 : decode cX7_join 75 = .ok (.iload_n 2, 1) := by decide +kernel
theorem dX7_join_76 : decode cX7_join 76 = .ok (.invokevirtual 118, 3) := by decide +kernel
theorem dX7_join_79 : decode cX7_join 79 = .ok (.invokevirtual 125, 3) := by decide +kernel
theorem dX7_join_82 : decode cX7_join 82 = .ok (.aload_n 0, 1) := by decide +kernel
theorem dX7_join_83 : decode cX7_join 83 = .ok (.iload_n 3, 1) := by decide +kernel
theorem dX7_join_84 : decode cX7_join 84 = .ok (.invokevirtual 121, 3) := by decide +kernel
theorem dX7_join_87 : decode cX7_join 87 = .ok (.iload_n 3, 1) := by decide +kernel
theorem dX7_join_88 : decode cX7_join 88 = .ok (.ireturn, 1) := by decide +kernel
set_option maxRecDepth 20000 in
theorem ggX7_against_X7_isFraction : GoodIn wsX7_against wsX7_isFraction := goodIn_r _ [6, 7, 8, 5, 9] (by decide +kernel) (by decide +kernel)
set_option maxRecDepth 20000 in
theorem gX7_against_X7_isFraction : GoodIn wsX7_against (va_wsS RX7 77 yX7_isFraction wsX7_isFraction) := goodIn_app (goodIn_of _ (by decide +kernel)) ggX7_against_X7_isFraction
set_option maxRecDepth 20000 in
theorem ggX7_against_X7_add : GoodIn wsX7_against wsX7_add := goodIn_r _ [13, 1, 2, 14, 15, 16, 17, 5, 18, 19, 20, 21, 22, 23, 24, 25, 26, 27, 28, 29, 30, 31, 32, 33, 34, 35, 36, 37, 38, 39, 40, 41] (by decide +kernel) (by decide +kernel)
set_option maxRecDepth 20000 in
theorem gX7_against_X7_add : GoodIn wsX7_against (wsV RX7 135 RX7 yX7_add wsX7_add) := goodIn_app (goodIn_of _ (by decide +kernel)) ggX7_against_X7_add
theorem dX7_against_0 : decode cX7_against 0 = .ok (.iload_n 1, 1) := by decide +kernel
theorem dX7_against_1 : decode cX7_against 1 = .ok (.iload_n 2, 1) := by decide +kernel
theorem dX7_against_2 : decode cX7_against 2 = .ok (.invokestatic 77, 3) := by decide +kernel
theorem dX7_against_5 : decode cX7_against 5 = .ok (.ifCond .ne 6, 3) := by decide +kernel
theorem dX7_against_8 : decode cX7_against 8 = .ok (.bipush (-102), 2) := by decide +kernel
theorem dX7_against_10 : decode cX7_against 10 = .ok (.ireturn, 1) := by decide +kernel
theorem dX7_against_11 : decode cX7_against 11 = .ok (.aload_n 0, 1) := by decide +kernel
theorem dX7_against_12 : decode cX7_against 12 = .ok (.invokevirtual 135, 3) := by decide +kernel
theorem dX7_against_15 : decode cX7_against 15 = .ok (.aload_n 0, 1) := by decide +kernel
theorem dX7_against_16 : decode cX7_against 16 = .ok (.getfield 128, 3) := by decide +kernel
theorem dX7_against_19 : decode cX7_against 19 = .ok (.iload_n 2, 1) := by decide +kernel
theorem dX7_against_20 : decode cX7_against 20 = .ok (.i2l, 1) := by decide +kernel
theorem dX7_against_21 : decode cX7_against 21 = .ok (.lmul, 1) := by decide +kernel
theorem dX7_against_22 : decode cX7_against 22 = .ok (.iload_n 1, 1) := by decide +kernel
theorem dX7_against_23 : decode cX7_against 23 = .ok (.i2l, 1) := by decide +kernel
theorem dX7_against_24 : decode cX7_against 24 = .ok (.aload_n 0, 1) := by decide +kernel
theorem dX7_against_25 : decode cX7_against 25 = .ok (.getfield 132, 3) := by decide +kernel
theorem dX7_against_28 : decode cX7_against 28 = .ok (.lmul, 1) := by decide +kernel
theorem dX7_against_29 : decode cX7_against 29 = .ok (.lsub, 1) := by decide +kernel
theorem dX7_against_30 : decode cX7_against 30 = .ok (.lstore_n 3, 1) := by decide +kernel
theorem dX7_against_31 : decode cX7_against 31 = .ok (.lload_n 3, 1) := by decide +kernel
theorem dX7_against_32 : decode cX7_against 32 = .ok (.lconst 0, 1) := by decide +kernel
theorem dX7_against_33 : decode cX7_against 33 = .ok (.lcmp, 1) := by decide +kernel
theorem dX7_against_34 : decode cX7_against 34 = .ok (.ifCond .le 7, 3) := by decide +kernel
theorem dX7_against_37 : decode cX7_against 37 = .ok (.iconst 1, 1) := by decide +kernel
theorem dX7_against_38 : decode cX7_against 38 = .ok (.goto 14, 3) := by decide +kernel
theorem dX7_against_41 : decode cX7_against 41 = .ok (.lload_n 3, 1) := by decide +kernel
theorem dX7_against_42 : decode cX7_against 42 = .ok (.lconst 0, 1) := by decide +kernel
theorem dX7_against_43 : decode cX7_against 43 = .ok (.lcmp, 1) := by decide +kernel
theorem dX7_against_44 : decode cX7_against 44 = .ok (.ifCond .ge 7, 3) := by decide +kernel
theorem dX7_against_47 : decode cX7_against 47 = .ok (.iconst (-1), 1) := by decide +kernel
theorem dX7_against_48 : decode cX7_against 48 = .ok (.goto 4, 3) := by decide +kernel
theorem dX7_against_51 : decode cX7_against 51 = .ok (.iconst 0, 1) := by decide +kernel
theorem dX7_against_52 : decode cX7_against 52 = .ok (.ireturn, 1) := by decide +kernel
theorem dX7_meet_0 : decode cX7_meet 0 = .ok (.aload_n 0, 1) := by decide +kernel
theorem dX7_meet_1 : decode cX7_meet 1 = .ok (.getfield 138, 3) := by decide +kernel
theorem dX7_meet_4 : decode cX7_meet 4 = .ok (.iload_n 1, 1) := by decide +kernel
theorem dX7_meet_5 : decode cX7_meet 5 = .ok (.if_icmp .ne 19, 3) := by decide +kernel
theorem dX7_meet_8 : decode cX7_meet 8 = .ok (.aload_n 0, 1) := by decide +kernel
theorem dX7_meet_9 : decode cX7_meet 9 = .ok (.iload_n 2, 1) := by decide +kernel
theorem dX7_meet_10 : decode cX7_meet 10 = .ok (.putfield 141, 3) := by decide +kernel
theorem dX7_meet_13 : decode cX7_meet 13 = .ok (.aload_n 0, 1) := by decide +kernel
theorem dX7_meet_14 : decode cX7_meet 14 = .ok (.iload_n 3, 1) := by decide +kernel
theorem dX7_meet_15 : decode cX7_meet 15 = .ok (.putfield 144, 3) := by decide +kernel
theorem dX7_meet_18 : decode cX7_meet 18 = .ok (.aload_n 0, 1) := by decide +kernel
theorem dX7_meet_19 : decode cX7_meet 19 = .ok (.iload 4, 2) := by decide +kernel
theorem dX7_meet_21 : decode cX7_meet 21 = .ok (.putfield 147, 3) := by decide +kernel
theorem dX7_meet_24 : decode cX7_meet 24 = .ok (.aload_n 0, 1) := by decide +kernel
theorem dX7_meet_25 : decode cX7_meet 25 = .ok (.dup, 1) := by decide +kernel
theorem dX7_meet_26 : decode cX7_meet 26 = .ok (.getfield 138, 3) := by decide +kernel
theorem dX7_meet_29 : decode cX7_meet 29 = .ok (.iconst 1, 1) := by decide +kernel
theorem dX7_meet_30 : decode cX7_meet 30 = .ok (.iadd, 1) := by decide +kernel
theorem dX7_meet_31 : decode cX7_meet 31 = .ok (.putfield 138, 3) := by decide +kernel
theorem dX7_meet_34 : decode cX7_meet 34 = .ok (.return_, 1) := by decide +kernel
set_option maxRecDepth 20000 in
theorem ggX7_seek_X7_meet : GoodIn wsX7_seek wsX7_meet := goodIn_r _ [6, 7, 8, 9, 10, 11, 12, 13, 14, 15, 16, 17, 18, 19, 20, 21, 22, 23, 24, 25, 26, 27, 28, 29, 30, 31, 32, 33] (by decide +kernel) (by decide +kernel)
set_option maxRecDepth 20000 in
theorem gX7_seek_X7_meet : GoodIn wsX7_seek (wsV RX7 150 RX7 yX7_meet wsX7_meet) := goodIn_app (goodIn_of _ (by decide +kernel)) ggX7_seek_X7_meet
theorem dX7_seek_0 : decode cX7_seek 0 = .ok (.lload_n 3, 1) := by decide +kernel
theorem dX7_seek_1 : decode cX7_seek 1 = .ok (.lload_n 1, 1) := by decide +kernel
theorem dX7_seek_2 : decode cX7_seek 2 = .ok (.ldiv, 1) := by decide +kernel
theorem dX7_seek_3 : decode cX7_seek 3 = .ok (.lconst 1, 1) := by decide +kernel
theorem dX7_seek_4 : decode cX7_seek 4 = .ok (.ladd, 1) := by decide +kernel
theorem dX7_seek_5 : decode cX7_seek 5 = .ok (.lstore 8, 2) := by decide +kernel
theorem dX7_seek_7 : decode cX7_seek 7 = .ok (.lload 8, 2) := by decide +kernel
theorem dX7_seek_9 : decode cX7_seek 9 = .ok (.iload 5, 2) := by decide +kernel
theorem dX7_seek_11 : decode cX7_seek 11 = .ok (.i2l, 1) := by decide +kernel
theorem dX7_seek_12 : decode cX7_seek 12 = .ok (.lcmp, 1) := by decide +kernel
theorem dX7_seek_13 : decode cX7_seek 13 = .ok (.ifCond .ge 9, 3) := by decide +kernel
theorem dX7_seek_16 : decode cX7_seek 16 = .ok (.iload 5, 2) := by decide +kernel
theorem dX7_seek_18 : decode cX7_seek 18 = .ok (.i2l, 1) := by decide +kernel
theorem dX7_seek_19 : decode cX7_seek 19 = .ok (.goto 5, 3) := by decide +kernel
theorem dX7_seek_22 : decode cX7_seek 22 = .ok (.lload 8, 2) := by decide +kernel
theorem dX7_seek_24 : decode cX7_seek 24 = .ok (.lstore 8, 2) := by decide +kernel
theorem dX7_seek_26 : decode cX7_seek 26 = .ok (.lload 8, 2) := by decide +kernel
theorem dX7_seek_28 : decode cX7_seek 28 = .ok (.lload_n 1, 1) := by decide +kernel
theorem dX7_seek_29 : decode cX7_seek 29 = .ok (.lmul, 1) := by decide +kernel
theorem dX7_seek_30 : decode cX7_seek 30 = .ok (.ldc2_w 104, 3) := by decide +kernel
theorem dX7_seek_33 : decode cX7_seek 33 = .ok (.lload_n 3, 1) := by decide +kernel
theorem dX7_seek_34 : decode cX7_seek 34 = .ok (.lmul, 1) := by decide +kernel
theorem dX7_seek_35 : decode cX7_seek 35 = .ok (.lcmp, 1) := by decide +kernel
theorem dX7_seek_36 : decode cX7_seek 36 = .ok (.ifCond .gt 75, 3) := by decide +kernel
theorem dX7_seek_39 : decode cX7_seek 39 = .ok (.lload_n 1, 1) := by decide +kernel
theorem dX7_seek_40 : decode cX7_seek 40 = .ok (.lload 8, 2) := by decide +kernel
theorem dX7_seek_42 : decode cX7_seek 42 = .ok (.lmul, 1) := by decide +kernel
theorem dX7_seek_43 : decode cX7_seek 43 = .ok (.lload_n 3, 1) := by decide +kernel
theorem dX7_seek_44 : decode cX7_seek 44 = .ok (.lsub, 1) := by decide +kernel
theorem dX7_seek_45 : decode cX7_seek 45 = .ok (.lstore 10, 2) := by decide +kernel
theorem dX7_seek_47 : decode cX7_seek 47 = .ok (.lload_n 3, 1) := by decide +kernel
theorem dX7_seek_48 : decode cX7_seek 48 = .ok (.lload 8, 2) := by decide +kernel
theorem dX7_seek_50 : decode cX7_seek 50 = .ok (.lmul, 1) := by decide +kernel
theorem dX7_seek_51 : decode cX7_seek 51 = .ok (.lload 10, 2) := by decide +kernel
theorem dX7_seek_53 : decode cX7_seek 53 = .ok (.lrem, 1) := by decide +kernel
theorem dX7_seek_54 : decode cX7_seek 54 = .ok (.lconst 0, 1) := by decide +kernel
theorem dX7_seek_55 : decode cX7_seek 55 = .ok (.lcmp, 1) := by decide +kernel
theorem dX7_seek_56 : decode cX7_seek 56 = .ok (.ifCond .ne 46, 3) := by decide +kernel
theorem dX7_seek_59 : decode cX7_seek 59 = .ok (.lload_n 3, 1) := by decide +kernel
theorem dX7_seek_60 : decode cX7_seek 60 = .ok (.lload 8, 2) := by decide +kernel
theorem dX7_seek_62 : decode cX7_seek 62 = .ok (.lmul, 1) := by decide +kernel
theorem dX7_seek_63 : decode cX7_seek 63 = .ok (.lload 10, 2) := by decide +kernel
theorem dX7_seek_65 : decode cX7_seek 65 = .ok (.ldiv, 1) := by decide +kernel
theorem dX7_seek_66 : decode cX7_seek 66 = .ok (.l2i, 1) := by decide +kernel
theorem dX7_seek_67 : decode cX7_seek 67 = .ok (.istore 12, 2) := by decide +kernel
theorem dX7_seek_69 : decode cX7_seek 69 = .ok (.iload 6, 2) := by decide +kernel
theorem dX7_seek_71 : decode cX7_seek 71 = .ok (.ifCond .ne 18, 3) := by decide +kernel
theorem dX7_seek_74 : decode cX7_seek 74 = .ok (.aload_n 0, 1) := by decide +kernel
theorem dX7_seek_75 : decode cX7_seek 75 = .ok (.iload 7, 2) := by decide +kernel
theorem dX7_seek_77 : decode cX7_seek 77 = .ok (.lload 8, 2) := by decide +kernel
theorem dX7_seek_79 : decode cX7_seek 79 = .ok (.l2i, 1) := by decide +kernel
theorem dX7_seek_80 : decode cX7_seek 80 = .ok (.iload 12, 2) := by decide +kernel
theorem dX7_seek_82 : decode cX7_seek 82 = .ok (.iconst 0, 1) := by decide +kernel
theorem dX7_seek_83 : decode cX7_seek 83 = .ok (.invokevirtual 150, 3) := by decide +kernel
theorem dX7_seek_86 : decode cX7_seek 86 = .ok (.goto 16, 3) := by decide +kernel
theorem dX7_seek_89 : decode cX7_seek 89 = .ok (.aload_n 0, 1) := by decide +kernel
theorem dX7_seek_90 : decode cX7_seek 90 = .ok (.iload 7, 2) := by decide +kernel
theorem dX7_seek_92 : decode cX7_seek 92 = .ok (.iload 6, 2) := by decide +kernel
theorem dX7_seek_94 : decode cX7_seek 94 = .ok (.lload 8, 2) := by decide +kernel
theorem dX7_seek_96 : decode cX7_seek 96 = .ok (.l2i, 1) := by decide +kernel
theorem dX7_seek_97 : decode cX7_seek 97 = .ok (.iload 12, 2) := by decide +kernel
theorem dX7_seek_99 : decode cX7_seek 99 = .ok (.invokevirtual 150, 3) := by decide +kernel
theorem dX7_seek_102 : decode cX7_seek 102 = .ok (.lload 8, 2) := by decide +kernel
theorem dX7_seek_104 : decode cX7_seek 104 = .ok (.lconst 1, 1) := by decide +kernel
theorem dX7_seek_105 : decode cX7_seek 105 = .ok (.ladd, 1) := by decide +kernel
theorem dX7_seek_106 : decode cX7_seek 106 = .ok (.lstore 8, 2) := by decide +kernel
theorem dX7_seek_108 : decode cX7_seek 108 = .ok (.goto (-82), 3) := by decide +kernel
theorem dX7_seek_111 : decode cX7_seek 111 = .ok (.return_, 1) := by decide +kernel
set_option maxRecDepth 20000 in
theorem ggX7_seekPairs_X7_seek : GoodIn wsX7_seekPairs wsX7_seek := goodIn_r _ [8, 9, 10, 11, 12, 7, 13, 1, 2, 3, 14, 15, 16, 17, 18, 19, 20, 21, 22, 23, 24, 25, 26, 27, 28, 29, 30, 31, 32, 33, 34, 35, 36, 37] (by decide +kernel) (by decide +kernel)
set_option maxRecDepth 20000 in
theorem gX7_seekPairs_X7_seek : GoodIn wsX7_seekPairs (wsV RX7 154 RX7 yX7_seek wsX7_seek) := goodIn_app (goodIn_of _ (by decide +kernel)) ggX7_seekPairs_X7_seek
theorem dX7_seekPairs_0 : decode cX7_seekPairs 0 = .ok (.aload_n 0, 1) := by decide +kernel
theorem dX7_seekPairs_1 : decode cX7_seekPairs 1 = .ok (.iconst 0, 1) := by decide +kernel
theorem dX7_seekPairs_2 : decode cX7_seekPairs 2 = .ok (.putfield 138, 3) := by decide +kernel
theorem dX7_seekPairs_5 : decode cX7_seekPairs 5 = .ok (.aload_n 0, 1) := by decide +kernel
theorem dX7_seekPairs_6 : decode cX7_seekPairs 6 = .ok (.iconst (-1), 1) := by decide +kernel
theorem dX7_seekPairs_7 : decode cX7_seekPairs 7 = .ok (.putfield 141, 3) := by decide +kernel
theorem dX7_seekPairs_10 : decode cX7_seekPairs 10 = .ok (.aload_n 0, 1) := by decide +kernel
theorem dX7_seekPairs_11 : decode cX7_seekPairs 11 = .ok (.iconst (-1), 1) := by decide +kernel
theorem dX7_seekPairs_12 : decode cX7_seekPairs 12 = .ok (.putfield 144, 3) := by decide +kernel
theorem dX7_seekPairs_15 : decode cX7_seekPairs 15 = .ok (.aload_n 0, 1) := by decide +kernel
theorem dX7_seekPairs_16 : decode cX7_seekPairs 16 = .ok (.iload_n 1, 1) := by decide +kernel
theorem dX7_seekPairs_17 : decode cX7_seekPairs 17 = .ok (.i2l, 1) := by decide +kernel
theorem dX7_seekPairs_18 : decode cX7_seekPairs 18 = .ok (.iload_n 2, 1) := by decide +kernel
theorem dX7_seekPairs_19 : decode cX7_seekPairs 19 = .ok (.i2l, 1) := by decide +kernel
theorem dX7_seekPairs_20 : decode cX7_seekPairs 20 = .ok (.iconst 1, 1) := by decide +kernel
theorem dX7_seekPairs_21 : decode cX7_seekPairs 21 = .ok (.iconst 0, 1) := by decide +kernel
theorem dX7_seekPairs_22 : decode cX7_seekPairs 22 = .ok (.iload_n 3, 1) := by decide +kernel
theorem dX7_seekPairs_23 : decode cX7_seekPairs 23 = .ok (.invokevirtual 154, 3) := by decide +kernel
theorem dX7_seekPairs_26 : decode cX7_seekPairs 26 = .ok (.return_, 1) := by decide +kernel
set_option maxRecDepth 20000 in
theorem ggX7_pairs_X7_isFraction : GoodIn wsX7_pairs wsX7_isFraction := goodIn_r _ [5, 6, 7, 4, 8] (by decide +kernel) (by decide +kernel)
set_option maxRecDepth 20000 in
theorem gX7_pairs_X7_isFraction : GoodIn wsX7_pairs (va_wsS RX7 77 yX7_isFraction wsX7_isFraction) := goodIn_app (goodIn_of _ (by decide +kernel)) ggX7_pairs_X7_isFraction
set_option maxRecDepth 20000 in
theorem ggX7_pairs_X7_seekPairs : GoodIn wsX7_pairs wsX7_seekPairs := goodIn_r _ [12, 1, 13, 14, 15, 16, 17, 4, 18, 19, 20, 21, 22, 23, 24, 25, 26, 27, 28, 29, 30, 31, 32, 33, 34, 35, 36, 37, 38, 39, 40, 41, 42, 43, 44, 45, 46, 47] (by decide +kernel) (by decide +kernel)
set_option maxRecDepth 20000 in
theorem gX7_pairs_X7_seekPairs : GoodIn wsX7_pairs (wsV RX7 158 RX7 yX7_seekPairs wsX7_seekPairs) := goodIn_app (goodIn_of _ (by decide +kernel)) ggX7_pairs_X7_seekPairs
theorem dX7_pairs_0 : decode cX7_pairs 0 = .ok (.iload_n 1, 1) := by decide +kernel
theorem dX7_pairs_1 : decode cX7_pairs 1 = .ok (.iload_n 2, 1) := by decide +kernel
theorem dX7_pairs_2 : decode cX7_pairs 2 = .ok (.invokestatic 77, 3) := by decide +kernel
theorem dX7_pairs_5 : decode cX7_pairs 5 = .ok (.ifCond .ne 6, 3) := by decide +kernel
theorem dX7_pairs_8 : decode cX7_pairs 8 = .ok (.bipush (-102), 2) := by decide +kernel
theorem dX7_pairs_10 : decode cX7_pairs 10 = .ok (.ireturn, 1) := by decide +kernel
theorem dX7_pairs_11 : decode cX7_pairs 11 = .ok (.aload_n 0, 1) := by decide +kernel
theorem dX7_pairs_12 : decode cX7_pairs 12 = .ok (.iload_n 1, 1) := by decide +kernel
theorem dX7_pairs_13 : decode cX7_pairs 13 = .ok (.iload_n 2, 1) := by decide +kernel
theorem dX7_pairs_14 : decode cX7_pairs 14 = .ok (.iconst (-1), 1) := by decide +kernel
theorem dX7_pairs_15 : decode cX7_pairs 15 = .ok (.invokevirtual 158, 3) := by decide +kernel
theorem dX7_pairs_18 : decode cX7_pairs 18 = .ok (.aload_n 0, 1) := by decide +kernel
theorem dX7_pairs_19 : decode cX7_pairs 19 = .ok (.getfield 138, 3) := by decide +kernel
theorem dX7_pairs_22 : decode cX7_pairs 22 = .ok (.ireturn, 1) := by decide +kernel
set_option maxRecDepth 20000 in
theorem ggX7_pair_X7_isFraction : GoodIn wsX7_pair wsX7_isFraction := goodIn_r _ [6, 7, 8, 5, 9] (by decide +kernel) (by decide +kernel)
set_option maxRecDepth 20000 in
theorem gX7_pair_X7_isFraction : GoodIn wsX7_pair (va_wsS RX7 77 yX7_isFraction wsX7_isFraction) := goodIn_app (goodIn_of _ (by decide +kernel)) ggX7_pair_X7_isFraction
set_option maxRecDepth 20000 in
theorem ggX7_pair_X7_in : GoodIn wsX7_pair wsX7_in := goodIn_r _ [9] (by decide +kernel) (by decide +kernel)
set_option maxRecDepth 20000 in
theorem gX7_pair_X7_in : GoodIn wsX7_pair (va_wsS RX7 39 yX7_in wsX7_in) := goodIn_app (goodIn_of _ (by decide +kernel)) ggX7_pair_X7_in
set_option maxRecDepth 20000 in
theorem ggX7_pair_X7_seekPairs : GoodIn wsX7_pair wsX7_seekPairs := goodIn_r _ [13, 14, 1, 2, 15, 16, 17, 5, 18, 19, 20, 21, 22, 23, 24, 25, 26, 27, 28, 29, 30, 31, 32, 33, 34, 35, 36, 37, 38, 39, 40, 41, 42, 43, 44, 45, 46, 47] (by decide +kernel) (by decide +kernel)
set_option maxRecDepth 20000 in
theorem gX7_pair_X7_seekPairs : GoodIn wsX7_pair (wsV RX7 158 RX7 yX7_seekPairs wsX7_seekPairs) := goodIn_app (goodIn_of _ (by decide +kernel)) ggX7_pair_X7_seekPairs
theorem dX7_pair_0 : decode cX7_pair 0 = .ok (.iload_n 1, 1) := by decide +kernel
theorem dX7_pair_1 : decode cX7_pair 1 = .ok (.iload_n 2, 1) := by decide +kernel
theorem dX7_pair_2 : decode cX7_pair 2 = .ok (.invokestatic 77, 3) := by decide +kernel
theorem dX7_pair_5 : decode cX7_pair 5 = .ok (.ifCond .eq 13, 3) := by decide +kernel
theorem dX7_pair_8 : decode cX7_pair 8 = .ok (.iload 4, 2) := by decide +kernel
theorem dX7_pair_10 : decode cX7_pair 10 = .ok (.iconst 0, 1) := by decide +kernel
theorem dX7_pair_11 : decode cX7_pair 11 = .ok (.iconst 1, 1) := by decide +kernel
theorem dX7_pair_12 : decode cX7_pair 12 = .ok (.invokestatic 39, 3) := by decide +kernel
theorem dX7_pair_15 : decode cX7_pair 15 = .ok (.ifCond .ne 6, 3) := by decide +kernel
theorem dX7_pair_18 : decode cX7_pair 18 = .ok (.bipush (-102), 2) := by decide +kernel
theorem dX7_pair_20 : decode cX7_pair 20 = .ok (.ireturn, 1) := by decide +kernel
theorem dX7_pair_21 : decode cX7_pair 21 = .ok (.aload_n 0, 1) := by decide +kernel
theorem dX7_pair_22 : decode cX7_pair 22 = .ok (.iload_n 1, 1) := by decide +kernel
theorem dX7_pair_23 : decode cX7_pair 23 = .ok (.iload_n 2, 1) := by decide +kernel
theorem dX7_pair_24 : decode cX7_pair 24 = .ok (.iload_n 3, 1) := by decide +kernel
theorem dX7_pair_25 : decode cX7_pair 25 = .ok (.invokevirtual 158, 3) := by decide +kernel
theorem dX7_pair_28 : decode cX7_pair 28 = .ok (.iload 4, 2) := by decide +kernel
theorem dX7_pair_30 : decode cX7_pair 30 = .ok (.ifCond .ne 10, 3) := by decide +kernel
theorem dX7_pair_33 : decode cX7_pair 33 = .ok (.aload_n 0, 1) := by decide +kernel
theorem dX7_pair_34 : decode cX7_pair 34 = .ok (.getfield 141, 3) := by decide +kernel
theorem dX7_pair_37 : decode cX7_pair 37 = .ok (.goto 7, 3) := by decide +kernel
theorem dX7_pair_40 : decode cX7_pair 40 = .ok (.aload_n 0, 1) := by decide +kernel
theorem dX7_pair_41 : decode cX7_pair 41 = .ok (.getfield 144, 3) := by decide +kernel
theorem dX7_pair_44 : decode cX7_pair 44 = .ok (.ireturn, 1) := by decide +kernel
set_option maxRecDepth 20000 in
theorem ggX7_seekTriples_X7_seek : GoodIn wsX7_seekTriples wsX7_seek := goodIn_r _ [10, 11, 12, 13, 14, 9, 15, 2, 3, 4, 5, 16, 17, 18, 19, 20, 21, 22, 23, 24, 25, 26, 27, 28, 29, 30, 31, 32, 33, 34, 35, 36, 37, 38] (by decide +kernel) (by decide +kernel)
set_option maxRecDepth 20000 in
theorem gX7_seekTriples_X7_seek : GoodIn wsX7_seekTriples (wsV RX7 154 RX7 yX7_seek wsX7_seek) := goodIn_app (goodIn_of _ (by decide +kernel)) ggX7_seekTriples_X7_seek
theorem dX7_seekTriples_0 : decode cX7_seekTriples 0 = .ok (.aload_n 0, 1) := by decide +kernel
theorem dX7_seekTriples_1 : decode cX7_seekTriples 1 = .ok (.dup, 1) := by decide +kernel
theorem dX7_seekTriples_2 : decode cX7_seekTriples 2 = .ok (.getfield 162, 3) := by decide +kernel
theorem dX7_seekTriples_5 : decode cX7_seekTriples 5 = .ok (.iconst 1, 1) := by decide +kernel
theorem dX7_seekTriples_6 : decode cX7_seekTriples 6 = .ok (.iadd, 1) := by decide +kernel
theorem dX7_seekTriples_7 : decode cX7_seekTriples 7 = .ok (.putfield 162, 3) := by decide +kernel
theorem dX7_seekTriples_10 : decode cX7_seekTriples 10 = .ok (.aload_n 0, 1) := by decide +kernel
theorem dX7_seekTriples_11 : decode cX7_seekTriples 11 = .ok (.iconst 0, 1) := by decide +kernel
theorem dX7_seekTriples_12 : decode cX7_seekTriples 12 = .ok (.putfield 138, 3) := by decide +kernel
theorem dX7_seekTriples_15 : decode cX7_seekTriples 15 = .ok (.aload_n 0, 1) := by decide +kernel
theorem dX7_seekTriples_16 : decode cX7_seekTriples 16 = .ok (.iconst (-1), 1) := by decide +kernel
theorem dX7_seekTriples_17 : decode cX7_seekTriples 17 = .ok (.putfield 141, 3) := by decide +kernel
theorem dX7_seekTriples_20 : decode cX7_seekTriples 20 = .ok (.aload_n 0, 1) := by decide +kernel
theorem dX7_seekTriples_21 : decode cX7_seekTriples 21 = .ok (.iconst (-1), 1) := by decide +kernel
theorem dX7_seekTriples_22 : decode cX7_seekTriples 22 = .ok (.putfield 144, 3) := by decide +kernel
theorem dX7_seekTriples_25 : decode cX7_seekTriples 25 = .ok (.aload_n 0, 1) := by decide +kernel
theorem dX7_seekTriples_26 : decode cX7_seekTriples 26 = .ok (.iconst (-1), 1) := by decide +kernel
theorem dX7_seekTriples_27 : decode cX7_seekTriples 27 = .ok (.putfield 147, 3) := by decide +kernel
theorem dX7_seekTriples_30 : decode cX7_seekTriples 30 = .ok (.iload_n 2, 1) := by decide +kernel
theorem dX7_seekTriples_31 : decode cX7_seekTriples 31 = .ok (.iload_n 1, 1) := by decide +kernel
theorem dX7_seekTriples_32 : decode cX7_seekTriples 32 = .ok (.idiv, 1) := by decide +kernel
theorem dX7_seekTriples_33 : decode cX7_seekTriples 33 = .ok (.iconst 1, 1) := by decide +kernel
theorem dX7_seekTriples_34 : decode cX7_seekTriples 34 = .ok (.iadd, 1) := by decide +kernel
theorem dX7_seekTriples_35 : decode cX7_seekTriples 35 = .ok (.istore 4, 2) := by decide +kernel
theorem dX7_seekTriples_37 : decode cX7_seekTriples 37 = .ok (.iload 4, 2) := by decide +kernel
theorem dX7_seekTriples_39 : decode cX7_seekTriples 39 = .ok (.iload_n 1, 1) := by decide +kernel
theorem dX7_seekTriples_40 : decode cX7_seekTriples 40 = .ok (.imul, 1) := by decide +kernel
theorem dX7_seekTriples_41 : decode cX7_seekTriples 41 = .ok (.iconst 3, 1) := by decide +kernel
theorem dX7_seekTriples_42 : decode cX7_seekTriples 42 = .ok (.iload_n 2, 1) := by decide +kernel
theorem dX7_seekTriples_43 : decode cX7_seekTriples 43 = .ok (.imul, 1) := by decide +kernel
theorem dX7_seekTriples_44 : decode cX7_seekTriples 44 = .ok (.if_icmp .gt 30, 3) := by decide +kernel
theorem dX7_seekTriples_47 : decode cX7_seekTriples 47 = .ok (.aload_n 0, 1) := by decide +kernel
theorem dX7_seekTriples_48 : decode cX7_seekTriples 48 = .ok (.iload_n 1, 1) := by decide +kernel
theorem dX7_seekTriples_49 : decode cX7_seekTriples 49 = .ok (.iload 4, 2) := by decide +kernel
theorem dX7_seekTriples_51 : decode cX7_seekTriples 51 = .ok (.imul, 1) := by decide +kernel
theorem dX7_seekTriples_52 : decode cX7_seekTriples 52 = .ok (.iload_n 2, 1) := by decide +kernel
theorem dX7_seekTriples_53 : decode cX7_seekTriples 53 = .ok (.isub, 1) := by decide +kernel
theorem dX7_seekTriples_54 : decode cX7_seekTriples 54 = .ok (.i2l, 1) := by decide +kernel
theorem dX7_seekTriples_55 : decode cX7_seekTriples 55 = .ok (.iload_n 2, 1) := by decide +kernel
theorem dX7_seekTriples_56 : decode cX7_seekTriples 56 = .ok (.iload 4, 2) := by decide +kernel
theorem dX7_seekTriples_58 : decode cX7_seekTriples 58 = .ok (.imul, 1) := by decide +kernel
theorem dX7_seekTriples_59 : decode cX7_seekTriples 59 = .ok (.i2l, 1) := by decide +kernel
theorem dX7_seekTriples_60 : decode cX7_seekTriples 60 = .ok (.iload 4, 2) := by decide +kernel
theorem dX7_seekTriples_62 : decode cX7_seekTriples 62 = .ok (.iload 4, 2) := by decide +kernel
theorem dX7_seekTriples_64 : decode cX7_seekTriples 64 = .ok (.iload_n 3, 1) := by decide +kernel
theorem dX7_seekTriples_65 : decode cX7_seekTriples 65 = .ok (.invokevirtual 154, 3) := by decide +kernel
theorem dX7_seekTriples_68 : decode cX7_seekTriples 68 = .ok (.iinc 4 1, 3) := by decide +kernel
theorem dX7_seekTriples_71 : decode cX7_seekTriples 71 = .ok (.goto (-34), 3) := by decide +kernel
theorem dX7_seekTriples_74 : decode cX7_seekTriples 74 = .ok (.return_, 1) := by decide +kernel
set_option maxRecDepth 20000 in
theorem ggX7_triples_X7_isFraction : GoodIn wsX7_triples wsX7_isFraction := goodIn_r _ [6, 7, 8, 5, 9] (by decide +kernel) (by decide +kernel)
set_option maxRecDepth 20000 in
theorem gX7_triples_X7_isFraction : GoodIn wsX7_triples (va_wsS RX7 77 yX7_isFraction wsX7_isFraction) := goodIn_app (goodIn_of _ (by decide +kernel)) ggX7_triples_X7_isFraction
set_option maxRecDepth 20000 in
theorem ggX7_triples_X7_seekTriples : GoodIn wsX7_triples wsX7_seekTriples := goodIn_r _ [13, 1, 2, 14, 15, 16, 17, 18, 19, 5, 20, 21, 22, 23, 24, 25, 26, 27, 28, 29, 30, 31, 32, 33, 34, 35, 36, 37, 38, 39, 40, 41, 42, 43, 44, 45, 46, 47, 48] (by decide +kernel) (by decide +kernel)
set_option maxRecDepth 20000 in
theorem gX7_triples_X7_seekTriples : GoodIn wsX7_triples (wsV RX7 165 RX7 yX7_seekTriples wsX7_seekTriples) := goodIn_app (goodIn_of _ (by decide +kernel)) ggX7_triples_X7_seekTriples
theorem dX7_triples_0 : decode cX7_triples 0 = .ok (.iload_n 1, 1) := by decide +kernel
theorem dX7_triples_1 : decode cX7_triples 1 = .ok (.iload_n 2, 1) := by decide +kernel
theorem dX7_triples_2 : decode cX7_triples 2 = .ok (.invokestatic 77, 3) := by decide +kernel
theorem dX7_triples_5 : decode cX7_triples 5 = .ok (.ifCond .eq 9, 3) := by decide +kernel
theorem dX7_triples_8 : decode cX7_triples 8 = .ok (.iload_n 2, 1) := by decide +kernel
theorem dX7_triples_9 : decode cX7_triples 9 = .ok (.bipush 40, 2) := by decide +kernel
theorem dX7_triples_11 : decode cX7_triples 11 = .ok (.if_icmp .le 6, 3) := by decide +kernel
theorem dX7_triples_14 : decode cX7_triples 14 = .ok (.bipush (-102), 2) := by decide +kernel
theorem dX7_triples_16 : decode cX7_triples 16 = .ok (.ireturn, 1) := by decide +kernel
theorem dX7_triples_17 : decode cX7_triples 17 = .ok (.aload_n 0, 1) := by decide +kernel
theorem dX7_triples_18 : decode cX7_triples 18 = .ok (.getfield 162, 3) := by decide +kernel
theorem dX7_triples_21 : decode cX7_triples 21 = .ok (.bipush 40, 2) := by decide +kernel
theorem dX7_triples_23 : decode cX7_triples 23 = .ok (.if_icmp .ne 6, 3) := by decide +kernel
theorem dX7_triples_26 : decode cX7_triples 26 = .ok (.bipush (-104), 2) := by decide +kernel
theorem dX7_triples_28 : decode cX7_triples 28 = .ok (.ireturn, 1) := by decide +kernel
theorem dX7_triples_29 : decode cX7_triples 29 = .ok (.aload_n 0, 1) := by decide +kernel
theorem dX7_triples_30 : decode cX7_triples 30 = .ok (.iload_n 1, 1) := by decide +kernel
theorem dX7_triples_31 : decode cX7_triples 31 = .ok (.iload_n 2, 1) := by decide +kernel
theorem dX7_triples_32 : decode cX7_triples 32 = .ok (.iconst (-1), 1) := by decide +kernel
theorem dX7_triples_33 : decode cX7_triples 33 = .ok (.invokevirtual 165, 3) := by decide +kernel
theorem dX7_triples_36 : decode cX7_triples 36 = .ok (.aload_n 0, 1) := by decide +kernel
theorem dX7_triples_37 : decode cX7_triples 37 = .ok (.getfield 138, 3) := by decide +kernel
theorem dX7_triples_40 : decode cX7_triples 40 = .ok (.ireturn, 1) := by decide +kernel
set_option maxRecDepth 20000 in
theorem ggX7_triple_X7_isFraction : GoodIn wsX7_triple wsX7_isFraction := goodIn_r _ [8, 9, 10, 7, 11] (by decide +kernel) (by decide +kernel)
set_option maxRecDepth 20000 in
theorem gX7_triple_X7_isFraction : GoodIn wsX7_triple (va_wsS RX7 77 yX7_isFraction wsX7_isFraction) := goodIn_app (goodIn_of _ (by decide +kernel)) ggX7_triple_X7_isFraction
set_option maxRecDepth 20000 in
theorem ggX7_triple_X7_in : GoodIn wsX7_triple wsX7_in := goodIn_r _ [11] (by decide +kernel) (by decide +kernel)
set_option maxRecDepth 20000 in
theorem gX7_triple_X7_in : GoodIn wsX7_triple (va_wsS RX7 39 yX7_in wsX7_in) := goodIn_app (goodIn_of _ (by decide +kernel)) ggX7_triple_X7_in
set_option maxRecDepth 20000 in
theorem ggX7_triple_X7_seekTriples : GoodIn wsX7_triple wsX7_seekTriples := goodIn_r _ [15, 1, 16, 2, 3, 4, 17, 18, 19, 7, 20, 21, 22, 23, 24, 25, 26, 27, 28, 29, 30, 31, 32, 33, 34, 35, 36, 37, 38, 39, 40, 41, 42, 43, 44, 45, 46, 47, 48] (by decide +kernel) (by decide +kernel)
set_option maxRecDepth 20000 in
theorem gX7_triple_X7_seekTriples : GoodIn wsX7_triple (wsV RX7 165 RX7 yX7_seekTriples wsX7_seekTriples) := goodIn_app (goodIn_of _ (by decide +kernel)) ggX7_triple_X7_seekTriples
theorem dX7_triple_0 : decode cX7_triple 0 = .ok (.iload_n 1, 1) := by decide +kernel
theorem dX7_triple_1 : decode cX7_triple 1 = .ok (.iload_n 2, 1) := by decide +kernel
theorem dX7_triple_2 : decode cX7_triple 2 = .ok (.invokestatic 77, 3) := by decide +kernel
theorem dX7_triple_5 : decode cX7_triple 5 = .ok (.ifCond .eq 19, 3) := by decide +kernel
theorem dX7_triple_8 : decode cX7_triple 8 = .ok (.iload_n 2, 1) := by decide +kernel
theorem dX7_triple_9 : decode cX7_triple 9 = .ok (.bipush 40, 2) := by decide +kernel
theorem dX7_triple_11 : decode cX7_triple 11 = .ok (.if_icmp .gt 13, 3) := by decide +kernel
theorem dX7_triple_14 : decode cX7_triple 14 = .ok (.iload 4, 2) := by decide +kernel
theorem dX7_triple_16 : decode cX7_triple 16 = .ok (.iconst 0, 1) := by decide +kernel
theorem dX7_triple_17 : decode cX7_triple 17 = .ok (.iconst 2, 1) := by decide +kernel
theorem dX7_triple_18 : decode cX7_triple 18 = .ok (.invokestatic 39, 3) := by decide +kernel
theorem dX7_triple_21 : decode cX7_triple 21 = .ok (.ifCond .ne 6, 3) := by decide +kernel
theorem dX7_triple_24 : decode cX7_triple 24 = .ok (.bipush (-102), 2) := by decide +kernel
theorem dX7_triple_26 : decode cX7_triple 26 = .ok (.ireturn, 1) := by decide +kernel
theorem dX7_triple_27 : decode cX7_triple 27 = .ok (.aload_n 0, 1) := by decide +kernel
theorem dX7_triple_28 : decode cX7_triple 28 = .ok (.getfield 162, 3) := by decide +kernel
theorem dX7_triple_31 : decode cX7_triple 31 = .ok (.bipush 40, 2) := by decide +kernel
theorem dX7_triple_33 : decode cX7_triple 33 = .ok (.if_icmp .ne 6, 3) := by decide +kernel
theorem dX7_triple_36 : decode cX7_triple 36 = .ok (.bipush (-104), 2) := by decide +kernel
theorem dX7_triple_38 : decode cX7_triple 38 = .ok (.ireturn, 1) := by decide +kernel
theorem dX7_triple_39 : decode cX7_triple 39 = .ok (.aload_n 0, 1) := by decide +kernel
theorem dX7_triple_40 : decode cX7_triple 40 = .ok (.iload_n 1, 1) := by decide +kernel
theorem dX7_triple_41 : decode cX7_triple 41 = .ok (.iload_n 2, 1) := by decide +kernel
theorem dX7_triple_42 : decode cX7_triple 42 = .ok (.iload_n 3, 1) := by decide +kernel
theorem dX7_triple_43 : decode cX7_triple 43 = .ok (.invokevirtual 165, 3) := by decide +kernel
theorem dX7_triple_46 : decode cX7_triple 46 = .ok (.iload 4, 2) := by decide +kernel
theorem dX7_triple_48 : decode cX7_triple 48 = .ok (.ifCond .ne 10, 3) := by decide +kernel
theorem dX7_triple_51 : decode cX7_triple 51 = .ok (.aload_n 0, 1) := by decide +kernel
theorem dX7_triple_52 : decode cX7_triple 52 = .ok (.getfield 141, 3) := by decide +kernel
theorem dX7_triple_55 : decode cX7_triple 55 = .ok (.goto 20, 3) := by decide +kernel
theorem dX7_triple_58 : decode cX7_triple 58 = .ok (.iload 4, 2) := by decide +kernel
theorem dX7_triple_60 : decode cX7_triple 60 = .ok (.iconst 1, 1) := by decide +kernel
theorem dX7_triple_61 : decode cX7_triple 61 = .ok (.if_icmp .ne 10, 3) := by decide +kernel
theorem dX7_triple_64 : decode cX7_triple 64 = .ok (.aload_n 0, 1) := by decide +kernel
theorem dX7_triple_65 : decode cX7_triple 65 = .ok (.getfield 144, 3) := by decide +kernel
theorem dX7_triple_68 : decode cX7_triple 68 = .ok (.goto 7, 3) := by decide +kernel
theorem dX7_triple_71 : decode cX7_triple 71 = .ok (.aload_n 0, 1) := by decide +kernel
theorem dX7_triple_72 : decode cX7_triple 72 = .ok (.getfield 147, 3) := by decide +kernel
theorem dX7_triple_75 : decode cX7_triple 75 = .ok (.ireturn, 1) := by decide +kernel
theorem dX7_count_0 : decode cX7_count 0 = .ok (.iconst 0, 1) := by decide +kernel
theorem dX7_count_1 : decode cX7_count 1 = .ok (.istore_n 2, 1) := by decide +kernel
theorem dX7_count_2 : decode cX7_count 2 = .ok (.iload_n 1, 1) := by decide +kernel
theorem dX7_count_3 : decode cX7_count 3 = .ok (.tableswitch 86 0 4 #[33, 38, 71, 76, 81], 33) := by decide +kernel
theorem dX7_count_36 : decode cX7_count 36 = .ok (.aload_n 0, 1) := by decide +kernel
theorem dX7_count_37 : decode cX7_count 37 = .ok (.getfield 91, 3) := by decide +kernel
theorem dX7_count_40 : decode cX7_count 40 = .ok (.ireturn, 1) := by decide +kernel
theorem dX7_count_41 : decode cX7_count 41 = .ok (.iconst 2, 1) := by decide +kernel
theorem dX7_count_42 : decode cX7_count 42 = .ok (.istore_n 3, 1) := by decide +kernel
theorem dX7_count_43 : decode cX7_count 43 = .ok (.iload_n 3, 1) := by decide +kernel
theorem dX7_count_44 : decode cX7_count 44 = .ok (.bipush 120, 2) := by decide +kernel
theorem dX7_count_46 : decode cX7_count 46 = .ok (.if_icmp .gt 26, 3) := by decide +kernel
theorem dX7_count_49 : decode cX7_count 49 = .ok (.iload_n 2, 1) := by decide +kernel
theorem dX7_count_50 : decode cX7_count 50 = .ok (.aload_n 0, 1) := by decide +kernel
theorem dX7_count_51 : decode cX7_count 51 = .ok (.getfield 7, 3) := by decide +kernel
theorem dX7_count_54 : decode cX7_count 54 = .ok (.iload_n 3, 1) := by decide +kernel
theorem dX7_count_55 : decode cX7_count 55 = .ok (.baload, 1) := by decide +kernel
theorem dX7_count_56 : decode cX7_count 56 = .ok (.ifCond .eq 7, 3) := by decide +kernel
theorem dX7_count_59 : decode cX7_count 59 = .ok (.iconst 1, 1) := by decide +kernel
theorem dX7_count_60 : decode cX7_count 60 = .ok (.goto 4, 3) := by decide +kernel
theorem dX7_count_63 : decode cX7_count 63 = .ok (.iconst 0, 1) := by decide +kernel
theorem dX7_count_64 : decode cX7_count 64 = .ok (.iadd, 1) := by decide +kernel
theorem dX7_count_65 : decode cX7_count 65 = .ok (.istore_n 2, 1) := by decide +kernel
theorem dX7_count_66 : decode cX7_count 66 = .ok (.iinc 3 1, 3) := by decide +kernel
theorem dX7_count_69 : decode cX7_count 69 = .ok (.goto (-26), 3) := by decide +kernel
theorem dX7_count_72 : decode cX7_count 72 = .ok (.iload_n 2, 1) := by decide +kernel
theorem dX7_count_73 : decode cX7_count 73 = .ok (.ireturn, 1) := by decide +kernel
theorem dX7_count_74 : decode cX7_count 74 = .ok (.aload_n 0, 1) := by decide +kernel
theorem dX7_count_75 : decode cX7_count 75 = .ok (.getfield 80, 3) := by decide +kernel
theorem dX7_count_78 : decode cX7_count 78 = .ok (.ireturn, 1) := by decide +kernel
theorem dX7_count_79 : decode cX7_count 79 = .ok (.aload_n 0, 1) := by decide +kernel
theorem dX7_count_80 : decode cX7_count 80 = .ok (.getfield 162, 3) := by decide +kernel
theorem dX7_count_83 : decode cX7_count 83 = .ok (.ireturn, 1) := by decide +kernel
theorem dX7_count_84 : decode cX7_count 84 = .ok (.aload_n 0, 1) := by decide +kernel
theorem dX7_count_85 : decode cX7_count 85 = .ok (.getfield 98, 3) := by decide +kernel
theorem dX7_count_88 : decode cX7_count 88 = .ok (.ireturn, 1) := by decide +kernel
theorem dX7_count_89 : decode cX7_count 89 = .ok (.bipush (-102), 2) := by decide +kernel
theorem dX7_count_91 : decode cX7_count 91 = .ok (.ireturn, 1) := by decide +kernel
theorem dX7_mix_0 : decode cX7_mix 0 = .ok (.aload_n 0, 1) := by decide +kernel
theorem dX7_mix_1 : decode cX7_mix 1 = .ok (.ldc2_w 168, 3) := by decide +kernel
theorem dX7_mix_4 : decode cX7_mix 4 = .ok (.aload_n 0, 1) := by decide +kernel
theorem dX7_mix_5 : decode cX7_mix 5 = .ok (.getfield 170, 3) := by decide +kernel
theorem dX7_mix_8 : decode cX7_mix 8 = .ok (.lmul, 1) := by decide +kernel
theorem dX7_mix_9 : decode cX7_mix 9 = .ok (.lload_n 1, 1) := by decide +kernel
theorem dX7_mix_10 : decode cX7_mix 10 = .ok (.ladd, 1) := by decide +kernel
theorem dX7_mix_11 : decode cX7_mix 11 = .ok (.putfield 170, 3) := by decide +kernel
theorem dX7_mix_14 : decode cX7_mix 14 = .ok (.return_, 1) := by decide +kernel
set_option maxRecDepth 20000 in
theorem ggX7_digest_X7_mix : GoodIn wsX7_digest wsX7_mix := goodIn_r _ [14, 15, 2, 21, 22, 23, 24, 25, 26, 27, 28, 29, 30, 31, 32, 33, 34, 35, 36, 37, 38, 39, 40, 41, 42, 43] (by decide +kernel) (by decide +kernel)
set_option maxRecDepth 20000 in
theorem gX7_digest_X7_mix : GoodIn wsX7_digest (wsV RX7 175 RX7 yX7_mix wsX7_mix) := goodIn_app (goodIn_of _ (by decide +kernel)) ggX7_digest_X7_mix
set_option maxRecDepth 20000 in
theorem ggX7_digest_X7_done : GoodIn wsX7_digest wsX7_done := goodIn_r _ [19, 20, 21, 22, 23, 24, 25, 26, 27, 28, 29, 30, 31, 32, 33, 34, 35, 36, 37, 38, 39, 40, 41, 42, 43] (by decide +kernel) (by decide +kernel)
set_option maxRecDepth 20000 in
theorem gX7_digest_X7_done : GoodIn wsX7_digest (wsV RX7 179 RX7 yX7_done wsX7_done) := goodIn_app (goodIn_of _ (by decide +kernel)) ggX7_digest_X7_done
theorem dX7_digest_0 : decode cX7_digest 0 = .ok (.aload_n 0, 1) := by decide +kernel
theorem dX7_digest_1 : decode cX7_digest 1 = .ok (.ldc2_w 173, 3) := by decide +kernel
theorem dX7_digest_4 : decode cX7_digest 4 = .ok (.putfield 170, 3) := by decide +kernel
theorem dX7_digest_7 : decode cX7_digest 7 = .ok (.iconst 2, 1) := by decide +kernel
theorem dX7_digest_8 : decode cX7_digest 8 = .ok (.istore_n 1, 1) := by decide +kernel
theorem dX7_digest_9 : decode cX7_digest 9 = .ok (.iload_n 1, 1) := by decide +kernel
theorem dX7_digest_10 : decode cX7_digest 10 = .ok (.bipush 120, 2) := by decide +kernel
theorem dX7_digest_12 : decode cX7_digest 12 = .ok (.if_icmp .gt 24, 3) := by decide +kernel
theorem dX7_digest_15 : decode cX7_digest 15 = .ok (.aload_n 0, 1) := by decide +kernel
theorem dX7_digest_16 : decode cX7_digest 16 = .ok (.getfield 7, 3) := by decide +kernel
theorem dX7_digest_19 : decode cX7_digest 19 = .ok (.iload_n 1, 1) := by decide +kernel
theorem dX7_digest_20 : decode cX7_digest 20 = .ok (.baload, 1) := by decide +kernel
theorem dX7_digest_21 : decode cX7_digest 21 = .ok (.ifCond .eq 9, 3) := by decide +kernel
theorem dX7_digest_24 : decode cX7_digest 24 = .ok (.aload_n 0, 1) := by decide +kernel
theorem dX7_digest_25 : decode cX7_digest 25 = .ok (.iload_n 1, 1) := by decide +kernel
theorem dX7_digest_26 : decode cX7_digest 26 = .ok (.i2l, 1) := by decide +kernel
theorem dX7_digest_27 : decode cX7_digest 27 = .ok (.invokevirtual 175, 3) := by decide +kernel
theorem dX7_digest_30 : decode cX7_digest 30 = .ok (.iinc 1 1, 3) := by decide +kernel
theorem dX7_digest_33 : decode cX7_digest 33 = .ok (.goto (-24), 3) := by decide +kernel
theorem dX7_digest_36 : decode cX7_digest 36 = .ok (.iconst 0, 1) := by decide +kernel
theorem dX7_digest_37 : decode cX7_digest 37 = .ok (.istore_n 1, 1) := by decide +kernel
theorem dX7_digest_38 : decode cX7_digest 38 = .ok (.iload_n 1, 1) := by decide +kernel
theorem dX7_digest_39 : decode cX7_digest 39 = .ok (.aload_n 0, 1) := by decide +kernel
theorem dX7_digest_40 : decode cX7_digest 40 = .ok (.getfield 91, 3) := by decide +kernel
theorem dX7_digest_43 : decode cX7_digest 43 = .ok (.if_icmp .ge 20, 3) := by decide +kernel
theorem dX7_digest_46 : decode cX7_digest 46 = .ok (.aload_n 0, 1) := by decide +kernel
theorem dX7_digest_47 : decode cX7_digest 47 = .ok (.aload_n 0, 1) := by decide +kernel
theorem dX7_digest_48 : decode cX7_digest 48 = .ok (.getfield 13, 3) := by decide +kernel
theorem dX7_digest_51 : decode cX7_digest 51 = .ok (.iload_n 1, 1) := by decide +kernel
theorem dX7_digest_52 : decode cX7_digest 52 = .ok (.iaload, 1) := by decide +kernel
theorem dX7_digest_53 : decode cX7_digest 53 = .ok (.i2l, 1) := by decide +kernel
theorem dX7_digest_54 : decode cX7_digest 54 = .ok (.invokevirtual 175, 3) := by decide +kernel
theorem dX7_digest_57 : decode cX7_digest 57 = .ok (.iinc 1 1, 3) := by decide +kernel
theorem dX7_digest_60 : decode cX7_digest 60 = .ok (.goto (-22), 3) := by decide +kernel
theorem dX7_digest_63 : decode cX7_digest 63 = .ok (.iconst 0, 1) := by decide +kernel
theorem dX7_digest_64 : decode cX7_digest 64 = .ok (.istore_n 1, 1) := by decide +kernel
theorem dX7_digest_65 : decode cX7_digest 65 = .ok (.iload_n 1, 1) := by decide +kernel
theorem dX7_digest_66 : decode cX7_digest 66 = .ok (.aload_n 0, 1) := by decide +kernel
theorem dX7_digest_67 : decode cX7_digest 67 = .ok (.getfield 98, 3) := by decide +kernel
theorem dX7_digest_70 : decode cX7_digest 70 = .ok (.if_icmp .ge 20, 3) := by decide +kernel
theorem dX7_digest_73 : decode cX7_digest 73 = .ok (.aload_n 0, 1) := by decide +kernel
theorem dX7_digest_74 : decode cX7_digest 74 = .ok (.aload_n 0, 1) := by decide +kernel
theorem dX7_digest_75 : decode cX7_digest 75 = .ok (.getfield 17, 3) := by decide +kernel
theorem dX7_digest_78 : decode cX7_digest 78 = .ok (.iload_n 1, 1) := by decide +kernel
theorem dX7_digest_79 : decode cX7_digest 79 = .ok (.iaload, 1) := by decide +kernel
theorem dX7_digest_80 : decode cX7_digest 80 = .ok (.i2l, 1) := by decide +kernel
theorem dX7_digest_81 : decode cX7_digest 81 = .ok (.invokevirtual 175, 3) := by decide +kernel
theorem dX7_digest_84 : decode cX7_digest 84 = .ok (.iinc 1 1, 3) := by decide +kernel
theorem dX7_digest_87 : decode cX7_digest 87 = .ok (.goto (-22), 3) := by decide +kernel
theorem dX7_digest_90 : decode cX7_digest 90 = .ok (.aload_n 0, 1) := by decide +kernel
theorem dX7_digest_91 : decode cX7_digest 91 = .ok (.aload_n 0, 1) := by decide +kernel
theorem dX7_digest_92 : decode cX7_digest 92 = .ok (.invokevirtual 179, 3) := by decide +kernel
theorem dX7_digest_95 : decode cX7_digest 95 = .ok (.i2l, 1) := by decide +kernel
theorem dX7_digest_96 : decode cX7_digest 96 = .ok (.invokevirtual 175, 3) := by decide +kernel
theorem dX7_digest_99 : decode cX7_digest 99 = .ok (.aload_n 0, 1) := by decide +kernel
theorem dX7_digest_100 : decode cX7_digest 100 = .ok (.aload_n 0, 1) := by decide +kernel
theorem dX7_digest_101 : decode cX7_digest 101 = .ok (.getfield 80, 3) := by decide +kernel
theorem dX7_digest_104 : decode cX7_digest 104 = .ok (.i2l, 1) := by decide +kernel
theorem dX7_digest_105 : decode cX7_digest 105 = .ok (.invokevirtual 175, 3) := by decide +kernel
theorem dX7_digest_108 : decode cX7_digest 108 = .ok (.aload_n 0, 1) := by decide +kernel
theorem dX7_digest_109 : decode cX7_digest 109 = .ok (.aload_n 0, 1) := by decide +kernel
theorem dX7_digest_110 : decode cX7_digest 110 = .ok (.getfield 162, 3) := by decide +kernel
theorem dX7_digest_113 : decode cX7_digest 113 = .ok (.i2l, 1) := by decide +kernel
theorem dX7_digest_114 : decode cX7_digest 114 = .ok (.invokevirtual 175, 3) := by decide +kernel
theorem dX7_digest_117 : decode cX7_digest 117 = .ok (.aload_n 0, 1) := by decide +kernel
theorem dX7_digest_118 : decode cX7_digest 118 = .ok (.getfield 170, 3) := by decide +kernel
theorem dX7_digest_121 : decode cX7_digest 121 = .ok (.lreturn, 1) := by decide +kernel
theorem dJ13_compare_74951_0 : decode cJ13_compare_74951 0 = .ok (.lload_n 0, 1) := by decide +kernel
theorem dJ13_compare_74951_1 : decode cJ13_compare_74951 1 = .ok (.lload_n 2, 1) := by decide +kernel
theorem dJ13_compare_74951_2 : decode cJ13_compare_74951 2 = .ok (.lcmp, 1) := by decide +kernel
theorem dJ13_compare_74951_3 : decode cJ13_compare_74951 3 = .ok (.ifCond .ge 7, 3) := by decide +kernel
theorem dJ13_compare_74951_6 : decode cJ13_compare_74951 6 = .ok (.iconst (-1), 1) := by decide +kernel
theorem dJ13_compare_74951_7 : decode cJ13_compare_74951 7 = .ok (.goto 14, 3) := by decide +kernel
theorem dJ13_compare_74951_10 : decode cJ13_compare_74951 10 = .ok (.lload_n 0, 1) := by decide +kernel
theorem dJ13_compare_74951_11 : decode cJ13_compare_74951 11 = .ok (.lload_n 2, 1) := by decide +kernel
theorem dJ13_compare_74951_12 : decode cJ13_compare_74951 12 = .ok (.lcmp, 1) := by decide +kernel
theorem dJ13_compare_74951_13 : decode cJ13_compare_74951 13 = .ok (.ifCond .ne 7, 3) := by decide +kernel
theorem dJ13_compare_74951_16 : decode cJ13_compare_74951 16 = .ok (.iconst 0, 1) := by decide +kernel
theorem dJ13_compare_74951_17 : decode cJ13_compare_74951 17 = .ok (.goto 4, 3) := by decide +kernel
theorem dJ13_compare_74951_20 : decode cJ13_compare_74951 20 = .ok (.iconst 1, 1) := by decide +kernel
theorem dJ13_compare_74951_21 : decode cJ13_compare_74951 21 = .ok (.ireturn, 1) := by decide +kernel
theorem dJ9_max_7cf53_0 : decode cJ9_max_7cf53 0 = .ok (.iload_n 0, 1) := by decide +kernel
theorem dJ9_max_7cf53_1 : decode cJ9_max_7cf53 1 = .ok (.iload_n 1, 1) := by decide +kernel
theorem dJ9_max_7cf53_2 : decode cJ9_max_7cf53 2 = .ok (.if_icmp .lt 7, 3) := by decide +kernel
theorem dJ9_max_7cf53_5 : decode cJ9_max_7cf53 5 = .ok (.iload_n 0, 1) := by decide +kernel
theorem dJ9_max_7cf53_6 : decode cJ9_max_7cf53 6 = .ok (.goto 4, 3) := by decide +kernel
theorem dJ9_max_7cf53_9 : decode cJ9_max_7cf53 9 = .ok (.iload_n 1, 1) := by decide +kernel
theorem dJ9_max_7cf53_10 : decode cJ9_max_7cf53 10 = .ok (.ireturn, 1) := by decide +kernel
theorem dJ9_max_f86c9_0 : decode cJ9_max_f86c9 0 = .ok (.lload_n 0, 1) := by decide +kernel
theorem dJ9_max_f86c9_1 : decode cJ9_max_f86c9 1 = .ok (.lload_n 2, 1) := by decide +kernel
theorem dJ9_max_f86c9_2 : decode cJ9_max_f86c9 2 = .ok (.lcmp, 1) := by decide +kernel
theorem dJ9_max_f86c9_3 : decode cJ9_max_f86c9 3 = .ok (.ifCond .lt 7, 3) := by decide +kernel
theorem dJ9_max_f86c9_6 : decode cJ9_max_f86c9 6 = .ok (.lload_n 0, 1) := by decide +kernel
theorem dJ9_max_f86c9_7 : decode cJ9_max_f86c9 7 = .ok (.goto 4, 3) := by decide +kernel
theorem dJ9_max_f86c9_10 : decode cJ9_max_f86c9 10 = .ok (.lload_n 2, 1) := by decide +kernel
theorem dJ9_max_f86c9_11 : decode cJ9_max_f86c9 11 = .ok (.lreturn, 1) := by decide +kernel
set_option maxRecDepth 20000 in
theorem ggL_law_X6_init : GoodIn wsL_law wsX6_init := goodIn_r _ [8, 9, 10, 11, 12, 13, 14, 15, 16, 17, 18, 19, 20, 21, 22, 23, 24, 25, 26, 27, 28, 29, 30, 31, 32, 33, 34, 35, 36, 37, 38, 39, 40, 41, 42, 43, 44, 45, 46, 47, 48, 49, 50, 51, 52, 53, 54, 55, 56, 57, 58, 59, 60, 61, 62, 63, 64, 65, 66, 67, 68, 69, 70, 71, 650, 651, 652, 653, 654, 655, 656, 680, 681, 682, 683, 684, 685, 686, 687, 688, 689, 690, 691, 692, 693, 694, 695, 696, 697, 698, 699, 700, 701, 702, 703, 704, 705, 706, 707, 708] (by decide +kernel) (by decide +kernel)
set_option maxRecDepth 20000 in
theorem gL_law_X6_init : GoodIn wsL_law (wsX6_init) := ggL_law_X6_init
set_option maxRecDepth 20000 in
theorem ggL_law_X7_init : GoodIn wsL_law wsX7_init := goodIn_r _ [74, 75, 10, 11, 12, 76, 34, 77, 78, 54, 79, 80, 81, 82, 83, 84, 657, 658, 659, 660, 661, 662, 663, 664, 665, 666, 667, 668, 669, 670, 671, 672, 673, 674, 675, 676, 677, 678, 679] (by decide +kernel) (by decide +kernel)
set_option maxRecDepth 20000 in
theorem gL_law_X7_init : GoodIn wsL_law (wsX7_init) := ggL_law_X7_init
set_option maxRecDepth 20000 in
theorem ggL_law_X6_bar : GoodIn wsL_law wsX6_bar := goodIn_r _ [88, 13, 89, 90, 2, 91, 92, 93, 94, 650, 651, 652, 653, 654, 655, 656] (by decide +kernel) (by decide +kernel)
set_option maxRecDepth 20000 in
theorem gL_law_X6_bar : GoodIn wsL_law (wsV RL 13 RX6 yX6_bar wsX6_bar) := goodIn_app (goodIn_of _ (by decide +kernel)) ggL_law_X6_bar
set_option maxRecDepth 20000 in
theorem ggL_law_X7_bar : GoodIn wsL_law wsX7_bar := goodIn_r _ [98, 76, 99, 100, 5, 101, 657, 658, 659, 660, 661, 662, 663, 664, 665, 666, 667, 668, 669, 670, 671, 672, 673, 674, 675, 676, 677, 678, 679] (by decide +kernel) (by decide +kernel)
set_option maxRecDepth 20000 in
theorem gL_law_X7_bar : GoodIn wsL_law (wsV RL 17 RX7 yX7_bar wsX7_bar) := goodIn_app (goodIn_of _ (by decide +kernel)) ggL_law_X7_bar
set_option maxRecDepth 20000 in
theorem ggL_law_X6_isOf : GoodIn wsL_law wsX6_isOf := goodIn_r _ [105, 13, 89, 90, 2, 91, 106, 107, 108, 109, 110, 111, 112, 113, 114, 115, 116, 117, 118, 119, 120, 121, 92, 93, 94, 650, 651, 652, 653, 654, 655, 656] (by decide +kernel) (by decide +kernel)
set_option maxRecDepth 20000 in
theorem gL_law_X6_isOf : GoodIn wsL_law (wsV RL 18 RX6 yX6_isOf wsX6_isOf) := goodIn_app (goodIn_of _ (by decide +kernel)) ggL_law_X6_isOf
set_option maxRecDepth 20000 in
theorem ggL_law_X7_isOf : GoodIn wsL_law wsX7_isOf := goodIn_r _ [125, 99, 100, 5, 101, 126, 127, 128, 129, 76, 130, 131, 132, 133, 134, 135, 136, 137, 138, 657, 658, 659, 660, 661, 662, 663, 664, 665, 666, 667, 668, 669, 670, 671, 672, 673, 674, 675, 676, 677, 678, 679] (by decide +kernel) (by decide +kernel)
set_option maxRecDepth 20000 in
theorem gL_law_X7_isOf : GoodIn wsL_law (wsV RL 22 RX7 yX7_isOf wsX7_isOf) := goodIn_app (goodIn_of _ (by decide +kernel)) ggL_law_X7_isOf
set_option maxRecDepth 20000 in
theorem ggL_law_X6_fewest : GoodIn wsL_law wsX6_fewest := goodIn_r _ [142, 17, 143, 144, 145, 2, 146, 147, 148, 149, 150, 106, 107, 108, 89, 90, 91, 151, 152, 153, 154, 13, 155, 156, 157, 16, 158, 42, 159, 33, 160, 161, 162, 41, 163, 47, 48, 164, 165, 166, 167, 110, 111, 112, 113, 114, 115, 116, 117, 118, 119, 120, 121, 168, 169, 170, 171, 172, 173, 174, 175, 176, 177, 178, 36, 35, 179, 180, 181, 182, 183, 184, 185, 186, 187, 188, 37, 189, 190, 191, 192, 193, 194, 195, 196, 197, 198, 199, 200, 201, 38, 202, 203, 204, 205, 206, 207, 208, 209, 210, 211, 212, 213, 214, 215, 216, 217, 218, 219, 220, 221, 650, 651, 652, 653, 654, 655, 656, 680, 681, 682, 683, 684, 685, 686, 687, 688, 689, 690, 691, 692, 693, 707, 708] (by decide +kernel) (by decide +kernel)
set_option maxRecDepth 20000 in
theorem gL_law_X6_fewest : GoodIn wsL_law (wsV RL 23 RX6 yX6_fewest wsX6_fewest) := goodIn_app (goodIn_of _ (by decide +kernel)) ggL_law_X6_fewest
set_option maxRecDepth 20000 in
theorem ggL_law_X7_fewest : GoodIn wsL_law wsX7_fewest := goodIn_r _ [225, 226, 227, 228, 229, 230, 5, 231, 232, 233, 234, 99, 100, 101, 235, 236, 237, 238, 239, 82, 83, 81, 240, 241, 242, 243, 244, 245, 246, 126, 127, 128, 129, 76, 130, 131, 132, 133, 134, 135, 136, 137, 138, 247, 248, 249, 250, 84, 657, 658, 659, 660, 661, 662, 663, 664, 665, 666, 667, 668, 669, 670, 671, 672, 673, 674, 675, 676, 677, 678, 679] (by decide +kernel) (by decide +kernel)
set_option maxRecDepth 20000 in
theorem gL_law_X7_fewest : GoodIn wsL_law (wsV RL 27 RX7 yX7_fewest wsX7_fewest) := goodIn_app (goodIn_of _ (by decide +kernel)) ggL_law_X7_fewest
set_option maxRecDepth 20000 in
theorem ggL_law_X6_ways : GoodIn wsL_law wsX6_ways := goodIn_r _ [254, 17, 143, 144, 145, 2, 146, 147, 148, 149, 150, 106, 107, 108, 89, 90, 91, 151, 152, 153, 154, 13, 155, 156, 157, 16, 158, 42, 159, 33, 160, 161, 162, 41, 163, 47, 48, 164, 165, 166, 167, 110, 111, 112, 113, 114, 115, 116, 117, 118, 119, 120, 121, 168, 169, 170, 171, 172, 173, 174, 175, 176, 177, 178, 36, 35, 255, 256, 257, 258, 188, 184, 185, 186, 187, 183, 37, 189, 190, 191, 192, 193, 194, 195, 196, 197, 198, 199, 200, 201, 38, 202, 203, 204, 205, 206, 207, 208, 209, 210, 211, 212, 213, 214, 215, 216, 217, 218, 219, 220, 221, 650, 651, 652, 653, 654, 655, 656, 680, 681, 682, 683, 684, 685, 686, 687, 688, 689, 690, 691, 692, 693, 707, 708] (by decide +kernel) (by decide +kernel)
set_option maxRecDepth 20000 in
theorem gL_law_X6_ways : GoodIn wsL_law (wsV RL 28 RX6 yX6_ways wsX6_ways) := goodIn_app (goodIn_of _ (by decide +kernel)) ggL_law_X6_ways
set_option maxRecDepth 20000 in
theorem ggL_law_X7_ways : GoodIn wsL_law wsX7_ways := goodIn_r _ [262, 226, 227, 228, 229, 230, 5, 231, 232, 233, 234, 99, 100, 101, 235, 236, 237, 238, 239, 82, 83, 81, 240, 241, 242, 243, 244, 245, 246, 126, 127, 128, 129, 76, 130, 131, 132, 133, 134, 135, 136, 137, 138, 247, 248, 249, 250, 84, 657, 658, 659, 660, 661, 662, 663, 664, 665, 666, 667, 668, 669, 670, 671, 672, 673, 674, 675, 676, 677, 678, 679] (by decide +kernel) (by decide +kernel)
set_option maxRecDepth 20000 in
theorem gL_law_X7_ways : GoodIn wsL_law (wsV RL 32 RX7 yX7_ways wsX7_ways) := goodIn_app (goodIn_of _ (by decide +kernel)) ggL_law_X7_ways
set_option maxRecDepth 20000 in
theorem ggL_law_X6_take : GoodIn wsL_law wsX6_take := goodIn_r _ [266, 17, 143, 144, 145, 2, 146, 147, 148, 149, 150, 106, 107, 108, 89, 90, 91, 151, 152, 153, 154, 13, 155, 156, 157, 16, 158, 42, 159, 33, 160, 161, 162, 41, 163, 47, 48, 164, 165, 166, 167, 110, 111, 112, 113, 114, 115, 116, 117, 118, 119, 120, 121, 168, 169, 170, 171, 172, 173, 174, 175, 176, 177, 178, 36, 35, 179, 180, 181, 182, 183, 184, 185, 186, 187, 188, 37, 189, 190, 191, 192, 193, 194, 195, 196, 197, 198, 199, 200, 201, 38, 202, 203, 204, 205, 206, 207, 208, 209, 210, 211, 212, 213, 214, 215, 216, 217, 218, 219, 220, 221, 267, 268, 269, 270, 25, 271, 272, 273, 24, 274, 275, 276, 277, 278, 279, 280, 281, 282, 283, 63, 284, 285, 286, 287, 650, 651, 652, 653, 654, 655, 656, 680, 681, 682, 683, 684, 685, 686, 687, 688, 689, 690, 691, 692, 693, 707, 708, 699, 700, 701] (by decide +kernel) (by decide +kernel)
set_option maxRecDepth 20000 in
theorem gL_law_X6_take : GoodIn wsL_law (wsV RL 33 RX6 yX6_take wsX6_take) := goodIn_app (goodIn_of _ (by decide +kernel)) ggL_law_X6_take
set_option maxRecDepth 20000 in
theorem ggL_law_X7_take : GoodIn wsL_law wsX7_take := goodIn_r _ [291, 226, 228, 229, 230, 5, 231, 232, 233, 234, 99, 100, 101, 235, 236, 237, 238, 227, 239, 82, 83, 81, 240, 241, 242, 243, 244, 245, 246, 126, 127, 128, 129, 76, 130, 131, 132, 133, 134, 135, 136, 137, 138, 247, 248, 249, 250, 84, 292, 293, 294, 295, 296, 77, 657, 658, 659, 660, 661, 662, 663, 664, 665, 666, 667, 668, 669, 670, 671, 672, 673, 674, 675, 676, 677, 678, 679] (by decide +kernel) (by decide +kernel)
set_option maxRecDepth 20000 in
theorem gL_law_X7_take : GoodIn wsL_law (wsV RL 37 RX7 yX7_take wsX7_take) := goodIn_app (goodIn_of _ (by decide +kernel)) ggL_law_X7_take
set_option maxRecDepth 20000 in
theorem ggL_law_X6_smallest : GoodIn wsL_law wsX6_smallest := goodIn_r _ [300, 17, 25, 143, 144, 145, 2, 146, 147, 148, 149, 150, 106, 107, 108, 89, 90, 91, 151, 152, 153, 154, 13, 155, 156, 157, 16, 158, 42, 159, 33, 160, 161, 162, 41, 163, 47, 48, 164, 165, 166, 167, 110, 111, 112, 113, 114, 115, 116, 117, 118, 119, 120, 121, 168, 169, 170, 171, 172, 173, 174, 175, 176, 177, 178, 36, 35, 301, 302, 303, 304, 188, 184, 185, 186, 187, 183, 37, 189, 190, 191, 192, 193, 194, 195, 196, 197, 198, 199, 200, 201, 38, 202, 203, 204, 205, 206, 207, 208, 209, 210, 211, 212, 213, 214, 215, 216, 217, 218, 219, 220, 221, 267, 268, 269, 270, 271, 272, 273, 24, 274, 275, 276, 277, 278, 279, 280, 281, 282, 283, 63, 284, 285, 286, 287, 305, 306, 307, 308, 650, 651, 652, 653, 654, 655, 656, 680, 681, 682, 683, 684, 685, 686, 687, 688, 689, 690, 691, 692, 693, 707, 708, 699, 700, 701] (by decide +kernel) (by decide +kernel)
set_option maxRecDepth 20000 in
theorem gL_law_X6_smallest : GoodIn wsL_law (wsV RL 38 RX6 yX6_smallest wsX6_smallest) := goodIn_app (goodIn_of _ (by decide +kernel)) ggL_law_X6_smallest
set_option maxRecDepth 20000 in
theorem ggL_law_X7_smallest : GoodIn wsL_law wsX7_smallest := goodIn_r _ [312, 226, 77, 228, 229, 230, 5, 231, 232, 233, 234, 99, 100, 101, 235, 236, 237, 238, 227, 239, 82, 83, 81, 240, 241, 242, 243, 244, 245, 246, 126, 127, 128, 129, 76, 130, 131, 132, 133, 134, 135, 136, 137, 138, 247, 248, 249, 250, 84, 292, 293, 294, 295, 296, 657, 658, 659, 660, 661, 662, 663, 664, 665, 666, 667, 668, 669, 670, 671, 672, 673, 674, 675, 676, 677, 678, 679] (by decide +kernel) (by decide +kernel)
set_option maxRecDepth 20000 in
theorem gL_law_X7_smallest : GoodIn wsL_law (wsV RL 41 RX7 yX7_smallest wsX7_smallest) := goodIn_app (goodIn_of _ (by decide +kernel)) ggL_law_X7_smallest
set_option maxRecDepth 20000 in
theorem ggL_law_X6_greedy : GoodIn wsL_law wsX6_greedy := goodIn_r _ [316, 21, 148, 149, 2, 150, 317, 318, 319, 20, 320, 58, 321, 322, 323, 324, 325, 212, 326, 327, 328, 53, 329, 161, 162, 41, 163, 47, 48, 164, 165, 166, 330, 331, 332, 333, 55, 56, 334, 335, 336, 337, 338, 339, 340, 341, 342, 343, 344, 345, 346, 650, 651, 652, 653, 654, 655, 656, 694, 695, 696, 697, 698, 707, 708] (by decide +kernel) (by decide +kernel)
set_option maxRecDepth 20000 in
theorem gL_law_X6_greedy : GoodIn wsL_law (wsV RL 42 RX6 yX6_greedy wsX6_greedy) := goodIn_app (goodIn_of _ (by decide +kernel)) ggL_law_X6_greedy
set_option maxRecDepth 20000 in
theorem ggL_law_X7_greedy : GoodIn wsL_law wsX7_greedy := goodIn_r _ [350, 79, 80, 351, 352, 353, 78, 354, 355, 232, 233, 5, 234, 99, 100, 101, 240, 241, 242, 356, 357, 358, 359, 657, 658, 659, 660, 661, 662, 663, 664, 665, 666, 667, 668, 669, 670, 671, 672, 673, 674, 675, 676, 677, 678, 679] (by decide +kernel) (by decide +kernel)
set_option maxRecDepth 20000 in
theorem gL_law_X7_greedy : GoodIn wsL_law (wsV RL 45 RX7 yX7_greedy wsX7_greedy) := goodIn_app (goodIn_of _ (by decide +kernel)) ggL_law_X7_greedy
set_option maxRecDepth 20000 in
theorem ggL_law_X6_step : GoodIn wsL_law wsX6_step := goodIn_r _ [363, 21, 364, 365, 366, 20, 367, 321, 53, 650, 651, 652, 653, 654, 655, 656, 694, 695, 696, 697, 698] (by decide +kernel) (by decide +kernel)
set_option maxRecDepth 20000 in
theorem gL_law_X6_step : GoodIn wsL_law (wsV RL 46 RX6 yX6_step wsX6_step) := goodIn_app (goodIn_of _ (by decide +kernel)) ggL_law_X6_step
set_option maxRecDepth 20000 in
theorem ggL_law_X7_step : GoodIn wsL_law wsX7_step := goodIn_r _ [371, 351, 78, 99, 100, 5, 101, 657, 658, 659, 660, 661, 662, 663, 664, 665, 666, 667, 668, 669, 670, 671, 672, 673, 674, 675, 676, 677, 678, 679] (by decide +kernel) (by decide +kernel)
set_option maxRecDepth 20000 in
theorem gL_law_X7_step : GoodIn wsL_law (wsV RL 50 RX7 yX7_step wsX7_step) := goodIn_app (goodIn_of _ (by decide +kernel)) ggL_law_X7_step
set_option maxRecDepth 20000 in
theorem ggL_law_X6_left : GoodIn wsL_law wsX6_left := goodIn_r _ [375, 21, 376, 377, 343, 344, 345, 20, 346, 321, 378, 379, 380, 381, 55, 382, 383, 384, 385, 56, 650, 651, 652, 653, 654, 655, 656, 694, 695, 696, 697, 698] (by decide +kernel) (by decide +kernel)
set_option maxRecDepth 20000 in
theorem gL_law_X6_left : GoodIn wsL_law (wsV RL 51 RX6 yX6_left wsX6_left) := goodIn_app (goodIn_of _ (by decide +kernel)) ggL_law_X6_left
set_option maxRecDepth 20000 in
theorem ggL_law_X7_left : GoodIn wsL_law wsX7_left := goodIn_r _ [389, 351, 390, 79, 80, 391, 99, 100, 5, 101, 657, 658, 659, 660, 661, 662, 663, 664, 665, 666, 667, 668, 669, 670, 671, 672, 673, 674, 675, 676, 677, 678, 679] (by decide +kernel) (by decide +kernel)
set_option maxRecDepth 20000 in
theorem gL_law_X7_left : GoodIn wsL_law (wsV RL 55 RX7 yX7_left wsX7_left) := goodIn_app (goodIn_of _ (by decide +kernel)) ggL_law_X7_left
set_option maxRecDepth 20000 in
theorem ggL_law_X6_done : GoodIn wsL_law wsX6_done := goodIn_r _ [395, 21, 396, 397, 398, 20, 399, 321, 58, 323, 92, 93, 2, 94, 650, 651, 652, 653, 654, 655, 656, 694, 695, 696, 697, 698, 707, 708] (by decide +kernel) (by decide +kernel)
set_option maxRecDepth 20000 in
theorem gL_law_X6_done : GoodIn wsL_law (wsV RL 56 RX6 yX6_done wsX6_done) := goodIn_app (goodIn_of _ (by decide +kernel)) ggL_law_X6_done
set_option maxRecDepth 20000 in
theorem ggL_law_X7_done : GoodIn wsL_law wsX7_done := goodIn_r _ [403, 352, 657, 658, 659, 660, 661, 662, 663, 664, 665, 666, 667, 668, 669, 670, 671, 672, 673, 674, 675, 676, 677, 678, 679] (by decide +kernel) (by decide +kernel)
set_option maxRecDepth 20000 in
theorem gL_law_X7_done : GoodIn wsL_law (wsV RL 60 RX7 yX7_done wsX7_done) := goodIn_app (goodIn_of _ (by decide +kernel)) ggL_law_X7_done
set_option maxRecDepth 20000 in
theorem ggL_law_X6_put : GoodIn wsL_law wsX6_put := goodIn_r _ [407, 25, 408, 409, 410, 24, 411, 412, 413, 414, 415, 275, 63, 416, 285, 286, 287, 280, 281, 282, 283, 284, 417, 418, 419, 420, 650, 651, 652, 653, 654, 655, 656, 699, 700, 701] (by decide +kernel) (by decide +kernel)
set_option maxRecDepth 20000 in
theorem gL_law_X6_put : GoodIn wsL_law (wsV RL 61 RX6 yX6_put wsX6_put) := goodIn_app (goodIn_of _ (by decide +kernel)) ggL_law_X6_put
set_option maxRecDepth 20000 in
theorem ggL_law_X7_put : GoodIn wsL_law wsX7_put := goodIn_r _ [424, 296, 99, 100, 5, 101, 425, 426, 427, 428, 77, 429, 430, 431, 432, 657, 658, 659, 660, 661, 662, 663, 664, 665, 666, 667, 668, 669, 670, 671, 672, 673, 674, 675, 676, 677, 678, 679] (by decide +kernel) (by decide +kernel)
set_option maxRecDepth 20000 in
theorem gL_law_X7_put : GoodIn wsL_law (wsV RL 64 RX7 yX7_put wsX7_put) := goodIn_app (goodIn_of _ (by decide +kernel)) ggL_law_X7_put
set_option maxRecDepth 20000 in
theorem ggL_law_X6_drop : GoodIn wsL_law wsX6_drop := goodIn_r _ [436, 25, 408, 409, 410, 24, 411, 412, 413, 414, 415, 275, 63, 437, 438, 439, 440, 417, 418, 419, 420, 650, 651, 652, 653, 654, 655, 656, 699, 700, 701] (by decide +kernel) (by decide +kernel)
set_option maxRecDepth 20000 in
theorem gL_law_X6_drop : GoodIn wsL_law (wsV RL 65 RX6 yX6_drop wsX6_drop) := goodIn_app (goodIn_of _ (by decide +kernel)) ggL_law_X6_drop
set_option maxRecDepth 20000 in
theorem ggL_law_X7_drop : GoodIn wsL_law wsX7_drop := goodIn_r _ [444, 296, 425, 426, 427, 5, 428, 77, 445, 446, 447, 448, 657, 658, 659, 660, 661, 662, 663, 664, 665, 666, 667, 668, 669, 670, 671, 672, 673, 674, 675, 676, 677, 678, 679] (by decide +kernel) (by decide +kernel)
set_option maxRecDepth 20000 in
theorem gL_law_X7_drop : GoodIn wsL_law (wsV RL 68 RX7 yX7_drop wsX7_drop) := goodIn_app (goodIn_of _ (by decide +kernel)) ggL_law_X7_drop
set_option maxRecDepth 20000 in
theorem ggL_law_X6_clear : GoodIn wsL_law wsX6_clear := goodIn_r _ [452, 25, 417, 418, 419, 24, 420, 275, 271, 272, 273, 274, 650, 651, 652, 653, 654, 655, 656, 699, 700, 701] (by decide +kernel) (by decide +kernel)
set_option maxRecDepth 20000 in
theorem gL_law_X6_clear : GoodIn wsL_law (wsV RL 69 RX6 yX6_clear wsX6_clear) := goodIn_app (goodIn_of _ (by decide +kernel)) ggL_law_X6_clear
set_option maxRecDepth 20000 in
theorem ggL_law_X7_clear : GoodIn wsL_law wsX7_clear := goodIn_r _ [456, 296, 657, 658, 659, 660, 661, 662, 663, 664, 665, 666, 667, 668, 669, 670, 671, 672, 673, 674, 675, 676, 677, 678, 679] (by decide +kernel) (by decide +kernel)
set_option maxRecDepth 20000 in
theorem gL_law_X7_clear : GoodIn wsL_law (wsV RL 72 RX7 yX7_clear wsX7_clear) := goodIn_app (goodIn_of _ (by decide +kernel)) ggL_law_X7_clear
set_option maxRecDepth 20000 in
theorem ggL_law_X6_held : GoodIn wsL_law wsX6_held := goodIn_r _ [460, 25, 305, 306, 307, 24, 308, 275, 63, 650, 651, 652, 653, 654, 655, 656, 699, 700, 701] (by decide +kernel) (by decide +kernel)
set_option maxRecDepth 20000 in
theorem gL_law_X6_held : GoodIn wsL_law (wsV RL 73 RX6 yX6_held wsX6_held) := goodIn_app (goodIn_of _ (by decide +kernel)) ggL_law_X6_held
set_option maxRecDepth 20000 in
theorem ggL_law_X7_held : GoodIn wsL_law wsX7_held := goodIn_r _ [464, 296, 77, 99, 100, 5, 101, 657, 658, 659, 660, 661, 662, 663, 664, 665, 666, 667, 668, 669, 670, 671, 672, 673, 674, 675, 676, 677, 678, 679] (by decide +kernel) (by decide +kernel)
set_option maxRecDepth 20000 in
theorem gL_law_X7_held : GoodIn wsL_law (wsV RL 76 RX7 yX7_held wsX7_held) := goodIn_app (goodIn_of _ (by decide +kernel)) ggL_law_X7_held
set_option maxRecDepth 20000 in
theorem ggL_law_X6_sum : GoodIn wsL_law wsX6_sum := goodIn_r _ [468, 377, 25, 469, 470, 471, 472, 473, 24, 474, 65, 275, 63, 475, 476, 161, 162, 41, 163, 47, 48, 164, 165, 166, 477, 340, 341, 342, 650, 651, 652, 653, 654, 655, 656, 707, 708, 699, 700, 701] (by decide +kernel) (by decide +kernel)
set_option maxRecDepth 20000 in
theorem gL_law_X6_sum : GoodIn wsL_law (wsV RL 77 RX6 yX6_sum wsX6_sum) := goodIn_app (goodIn_of _ (by decide +kernel)) ggL_law_X6_sum
set_option maxRecDepth 20000 in
theorem ggL_law_X7_sum : GoodIn wsL_law wsX7_sum := goodIn_r _ [481, 482, 483, 391, 484, 485, 486, 5, 487, 296, 77, 240, 241, 242, 657, 658, 659, 660, 661, 662, 663, 664, 665, 666, 667, 668, 669, 670, 671, 672, 673, 674, 675, 676, 677, 678, 679] (by decide +kernel) (by decide +kernel)
set_option maxRecDepth 20000 in
theorem gL_law_X7_sum : GoodIn wsL_law (wsV RL 81 RX7 yX7_sum wsX7_sum) := goodIn_app (goodIn_of _ (by decide +kernel)) ggL_law_X7_sum
set_option maxRecDepth 20000 in
theorem ggL_law_X6_split : GoodIn wsL_law wsX6_split := goodIn_r _ [491, 25, 408, 409, 410, 24, 411, 412, 413, 414, 415, 275, 63, 416, 285, 286, 287, 437, 438, 439, 440, 280, 281, 282, 283, 284, 650, 651, 652, 653, 654, 655, 656, 699, 700, 701] (by decide +kernel) (by decide +kernel)
set_option maxRecDepth 20000 in
theorem gL_law_X6_split : GoodIn wsL_law (wsV RL 82 RX6 yX6_split wsX6_split) := goodIn_app (goodIn_of _ (by decide +kernel)) ggL_law_X6_split
set_option maxRecDepth 20000 in
theorem ggL_law_X7_split : GoodIn wsL_law wsX7_split := goodIn_r _ [495, 296, 425, 426, 427, 5, 428, 77, 445, 446, 447, 448, 429, 430, 431, 432, 657, 658, 659, 660, 661, 662, 663, 664, 665, 666, 667, 668, 669, 670, 671, 672, 673, 674, 675, 676, 677, 678, 679] (by decide +kernel) (by decide +kernel)
set_option maxRecDepth 20000 in
theorem gL_law_X7_split : GoodIn wsL_law (wsV RL 85 RX7 yX7_split wsX7_split) := goodIn_app (goodIn_of _ (by decide +kernel)) ggL_law_X7_split
set_option maxRecDepth 20000 in
theorem ggL_law_X6_join : GoodIn wsL_law wsX6_join := goodIn_r _ [499, 25, 408, 409, 410, 24, 411, 412, 413, 414, 415, 275, 63, 437, 438, 439, 440, 280, 281, 282, 283, 284, 285, 286, 287, 650, 651, 652, 653, 654, 655, 656, 699, 700, 701] (by decide +kernel) (by decide +kernel)
set_option maxRecDepth 20000 in
theorem gL_law_X6_join : GoodIn wsL_law (wsV RL 86 RX6 yX6_join wsX6_join) := goodIn_app (goodIn_of _ (by decide +kernel)) ggL_law_X6_join
set_option maxRecDepth 20000 in
theorem ggL_law_X7_join : GoodIn wsL_law wsX7_join := goodIn_r _ [503, 425, 426, 427, 5, 428, 296, 77, 445, 446, 447, 448, 429, 430, 431, 432, 657, 658, 659, 660, 661, 662, 663, 664, 665, 666, 667, 668, 669, 670, 671, 672, 673, 674, 675, 676, 677, 678, 679] (by decide +kernel) (by decide +kernel)
set_option maxRecDepth 20000 in
theorem gL_law_X7_join : GoodIn wsL_law (wsV RL 89 RX7 yX7_join wsX7_join) := goodIn_app (goodIn_of _ (by decide +kernel)) ggL_law_X7_join
set_option maxRecDepth 20000 in
theorem ggL_law_X6_against : GoodIn wsL_law wsX6_against := goodIn_r _ [507, 25, 469, 470, 148, 149, 2, 150, 471, 472, 473, 24, 474, 65, 275, 63, 475, 476, 161, 162, 41, 163, 47, 48, 164, 165, 166, 477, 340, 341, 342, 508, 509, 510, 511, 650, 651, 652, 653, 654, 655, 656, 707, 708, 699, 700, 701] (by decide +kernel) (by decide +kernel)
set_option maxRecDepth 20000 in
theorem gL_law_X6_against : GoodIn wsL_law (wsV RL 90 RX6 yX6_against wsX6_against) := goodIn_app (goodIn_of _ (by decide +kernel)) ggL_law_X6_against
set_option maxRecDepth 20000 in
theorem ggL_law_X7_against : GoodIn wsL_law wsX7_against := goodIn_r _ [515, 482, 483, 232, 233, 5, 234, 99, 100, 101, 484, 485, 486, 487, 296, 77, 240, 241, 242, 657, 658, 659, 660, 661, 662, 663, 664, 665, 666, 667, 668, 669, 670, 671, 672, 673, 674, 675, 676, 677, 678, 679] (by decide +kernel) (by decide +kernel)
set_option maxRecDepth 20000 in
theorem gL_law_X7_against : GoodIn wsL_law (wsV RL 93 RX7 yX7_against wsX7_against) := goodIn_app (goodIn_of _ (by decide +kernel)) ggL_law_X7_against
set_option maxRecDepth 20000 in
theorem ggL_law_X6_pairs : GoodIn wsL_law wsX6_pairs := goodIn_r _ [519, 29, 148, 149, 2, 150, 520, 521, 522, 28, 523, 524, 525, 526, 527, 528, 529, 530, 531, 532, 533, 534, 70, 535, 536, 325, 212, 326, 537, 538, 539, 540, 71, 541, 203, 204, 205, 650, 651, 652, 653, 654, 655, 656, 702, 703, 704, 705, 706] (by decide +kernel) (by decide +kernel)
set_option maxRecDepth 20000 in
theorem gL_law_X6_pairs : GoodIn wsL_law (wsV RL 94 RX6 yX6_pairs wsX6_pairs) := goodIn_app (goodIn_of _ (by decide +kernel)) ggL_law_X6_pairs
set_option maxRecDepth 20000 in
theorem ggL_law_X7_pairs : GoodIn wsL_law wsX7_pairs := goodIn_r _ [545, 546, 232, 233, 5, 234, 99, 100, 101, 547, 548, 549, 550, 551, 552, 553, 554, 555, 556, 353, 557, 558, 559, 560, 561, 657, 658, 659, 660, 661, 662, 663, 664, 665, 666, 667, 668, 669, 670, 671, 672, 673, 674, 675, 676, 677, 678, 679] (by decide +kernel) (by decide +kernel)
set_option maxRecDepth 20000 in
theorem gL_law_X7_pairs : GoodIn wsL_law (wsV RL 97 RX7 yX7_pairs wsX7_pairs) := goodIn_app (goodIn_of _ (by decide +kernel)) ggL_law_X7_pairs
set_option maxRecDepth 20000 in
theorem ggL_law_X6_pair : GoodIn wsL_law wsX6_pair := goodIn_r _ [565, 29, 148, 149, 2, 150, 566, 567, 568, 28, 569, 525, 526, 527, 528, 529, 524, 530, 531, 532, 533, 534, 70, 535, 536, 325, 212, 326, 537, 538, 539, 540, 71, 541, 203, 204, 205, 570, 571, 572, 573, 650, 651, 652, 653, 654, 655, 656, 702, 703, 704, 705, 706] (by decide +kernel) (by decide +kernel)
set_option maxRecDepth 20000 in
theorem gL_law_X6_pair : GoodIn wsL_law (wsV RL 98 RX6 yX6_pair wsX6_pair) := goodIn_app (goodIn_of _ (by decide +kernel)) ggL_law_X6_pair
set_option maxRecDepth 20000 in
theorem ggL_law_X7_pair : GoodIn wsL_law wsX7_pair := goodIn_r _ [577, 551, 552, 232, 233, 5, 234, 99, 100, 101, 547, 548, 549, 550, 546, 553, 554, 555, 556, 353, 557, 558, 559, 560, 561, 657, 658, 659, 660, 661, 662, 663, 664, 665, 666, 667, 668, 669, 670, 671, 672, 673, 674, 675, 676, 677, 678, 679] (by decide +kernel) (by decide +kernel)
set_option maxRecDepth 20000 in
theorem gL_law_X7_pair : GoodIn wsL_law (wsV RL 101 RX7 yX7_pair wsX7_pair) := goodIn_app (goodIn_of _ (by decide +kernel)) ggL_law_X7_pair
set_option maxRecDepth 20000 in
theorem ggL_law_X6_triples : GoodIn wsL_law wsX6_triples := goodIn_r _ [581, 582, 29, 583, 584, 585, 2, 586, 148, 149, 150, 587, 588, 589, 28, 590, 524, 525, 526, 527, 528, 529, 530, 591, 592, 593, 594, 595, 70, 531, 532, 533, 534, 535, 536, 325, 212, 326, 537, 538, 539, 540, 71, 541, 203, 204, 205, 650, 651, 652, 653, 654, 655, 656, 702, 703, 704, 705, 706] (by decide +kernel) (by decide +kernel)
set_option maxRecDepth 20000 in
theorem gL_law_X6_triples : GoodIn wsL_law (wsV RL 102 RX6 yX6_triples wsX6_triples) := goodIn_app (goodIn_of _ (by decide +kernel)) ggL_law_X6_triples
set_option maxRecDepth 20000 in
theorem ggL_law_X7_triples : GoodIn wsL_law wsX7_triples := goodIn_r _ [599, 600, 546, 232, 233, 5, 234, 99, 100, 101, 601, 602, 603, 604, 551, 552, 561, 553, 554, 555, 556, 353, 557, 558, 559, 560, 657, 658, 659, 660, 661, 662, 663, 664, 665, 666, 667, 668, 669, 670, 671, 672, 673, 674, 675, 676, 677, 678, 679] (by decide +kernel) (by decide +kernel)
set_option maxRecDepth 20000 in
theorem gL_law_X7_triples : GoodIn wsL_law (wsV RL 105 RX7 yX7_triples wsX7_triples) := goodIn_app (goodIn_of _ (by decide +kernel)) ggL_law_X7_triples
set_option maxRecDepth 20000 in
theorem ggL_law_X6_triple : GoodIn wsL_law wsX6_triple := goodIn_r _ [608, 582, 29, 583, 584, 585, 2, 586, 148, 149, 150, 609, 610, 611, 28, 612, 525, 526, 527, 528, 529, 524, 530, 591, 592, 593, 594, 595, 70, 531, 532, 533, 534, 535, 536, 325, 212, 326, 537, 538, 539, 540, 71, 541, 203, 204, 205, 570, 571, 572, 573, 650, 651, 652, 653, 654, 655, 656, 702, 703, 704, 705, 706] (by decide +kernel) (by decide +kernel)
set_option maxRecDepth 20000 in
theorem gL_law_X6_triple : GoodIn wsL_law (wsV RL 106 RX6 yX6_triple wsX6_triple) := goodIn_app (goodIn_of _ (by decide +kernel)) ggL_law_X6_triple
set_option maxRecDepth 20000 in
theorem ggL_law_X7_triple : GoodIn wsL_law wsX7_triple := goodIn_r _ [616, 600, 551, 552, 561, 232, 233, 5, 234, 99, 100, 101, 601, 602, 603, 604, 546, 553, 554, 555, 556, 353, 557, 558, 559, 560, 657, 658, 659, 660, 661, 662, 663, 664, 665, 666, 667, 668, 669, 670, 671, 672, 673, 674, 675, 676, 677, 678, 679] (by decide +kernel) (by decide +kernel)
set_option maxRecDepth 20000 in
theorem gL_law_X7_triple : GoodIn wsL_law (wsV RL 109 RX7 yX7_triple wsX7_triple) := goodIn_app (goodIn_of _ (by decide +kernel)) ggL_law_X7_triple
set_option maxRecDepth 20000 in
theorem ggL_law_X6_count : GoodIn wsL_law wsX6_count := goodIn_r _ [620, 25, 147, 582, 21, 417, 418, 419, 24, 420, 275, 621, 622, 623, 2, 624, 13, 92, 93, 94, 343, 344, 345, 20, 346, 321, 650, 651, 652, 653, 654, 655, 656, 699, 700, 701, 694, 695, 696, 697, 698] (by decide +kernel) (by decide +kernel)
set_option maxRecDepth 20000 in
theorem gL_law_X6_count : GoodIn wsL_law (wsV RL 110 RX6 yX6_count wsX6_count) := goodIn_app (goodIn_of _ (by decide +kernel)) ggL_law_X6_count
set_option maxRecDepth 20000 in
theorem ggL_law_X7_count : GoodIn wsL_law wsX7_count := goodIn_r _ [628, 296, 76, 226, 600, 351, 657, 658, 659, 660, 661, 662, 663, 664, 665, 666, 667, 668, 669, 670, 671, 672, 673, 674, 675, 676, 677, 678, 679] (by decide +kernel) (by decide +kernel)
set_option maxRecDepth 20000 in
theorem gL_law_X7_count : GoodIn wsL_law (wsV RL 113 RX7 yX7_count wsX7_count) := goodIn_app (goodIn_of _ (by decide +kernel)) ggL_law_X7_count
set_option maxRecDepth 20000 in
theorem ggL_law_X6_digest : GoodIn wsL_law wsX6_digest := goodIn_r _ [632, 633, 13, 25, 21, 147, 582, 634, 635, 2, 636, 637, 417, 418, 419, 24, 420, 275, 305, 306, 307, 308, 63, 343, 344, 345, 20, 346, 321, 364, 365, 366, 367, 53, 396, 397, 398, 399, 58, 323, 92, 93, 94, 650, 651, 652, 653, 654, 655, 656, 699, 700, 701, 694, 695, 696, 697, 698, 707, 708] (by decide +kernel) (by decide +kernel)
set_option maxRecDepth 20000 in
theorem gL_law_X6_digest : GoodIn wsL_law (wsV RL 114 RX6 yX6_digest wsX6_digest) := goodIn_app (goodIn_of _ (by decide +kernel)) ggL_law_X6_digest
set_option maxRecDepth 20000 in
theorem ggL_law_X7_digest : GoodIn wsL_law wsX7_digest := goodIn_r _ [641, 642, 643, 76, 296, 77, 351, 78, 226, 600, 644, 645, 646, 5, 647, 648, 649, 401, 402, 403, 352, 657, 658, 659, 660, 661, 662, 663, 664, 665, 666, 667, 668, 669, 670, 671, 672, 673, 674, 675, 676, 677, 678, 679] (by decide +kernel) (by decide +kernel)
set_option maxRecDepth 20000 in
theorem gL_law_X7_digest : GoodIn wsL_law (wsV RL 118 RX7 yX7_digest wsX7_digest) := goodIn_app (goodIn_of _ (by decide +kernel)) ggL_law_X7_digest
theorem dL_law_0 : decode cL_law 0 = .ok (.new 7, 3) := by decide +kernel
theorem dL_law_3 : decode cL_law 3 = .ok (.dup, 1) := by decide +kernel
theorem dL_law_4 : decode cL_law 4 = .ok (.invokespecial 9, 3) := by decide +kernel
theorem dL_law_7 : decode cL_law 7 = .ok (.astore_n 1, 1) := by decide +kernel
theorem dL_law_8 : decode cL_law 8 = .ok (.new 10, 3) := by decide +kernel
theorem dL_law_11 : decode cL_law 11 = .ok (.dup, 1) := by decide +kernel
theorem dL_law_12 : decode cL_law 12 = .ok (.invokespecial 12, 3) := by decide +kernel
theorem dL_law_15 : decode cL_law 15 = .ok (.astore_n 2, 1) := by decide +kernel
theorem dL_law_16 : decode cL_law 16 = .ok (.iconst 0, 1) := by decide +kernel
theorem dL_law_17 : decode cL_law 17 = .ok (.istore_n 3, 1) := by decide +kernel
theorem dL_law_18 : decode cL_law 18 = .ok (.iload_n 3, 1) := by decide +kernel
theorem dL_law_19 : decode cL_law 19 = .ok (.aload_n 0, 1) := by decide +kernel
theorem dL_law_20 : decode cL_law 20 = .ok (.arraylength, 1) := by decide +kernel
theorem dL_law_21 : decode cL_law 21 = .ok (.bipush 7, 2) := by decide +kernel
theorem dL_law_23 : decode cL_law 23 = .ok (.isub, 1) := by decide +kernel
theorem dL_law_24 : decode cL_law 24 = .ok (.if_icmp .gt 969, 3) := by decide +kernel
theorem dL_law_27 : decode cL_law 27 = .ok (.aload_n 0, 1) := by decide +kernel
theorem dL_law_28 : decode cL_law 28 = .ok (.iload_n 3, 1) := by decide +kernel
theorem dL_law_29 : decode cL_law 29 = .ok (.iaload, 1) := by decide +kernel
theorem dL_law_30 : decode cL_law 30 = .ok (.bipush 31, 2) := by decide +kernel
theorem dL_law_32 : decode cL_law 32 = .ok (.iand, 1) := by decide +kernel
theorem dL_law_33 : decode cL_law 33 = .ok (.tableswitch 954 0 23 #[111, 160, 193, 246, 309, 384, 447, 480, 503, 537, 550, 573, 596, 609, 632, 656, 679, 712, 745, 778, 831, 864, 917, 940], 111) := by decide +kernel
theorem dL_law_144 : decode cL_law 144 = .ok (.aload_n 1, 1) := by decide +kernel
theorem dL_law_145 : decode cL_law 145 = .ok (.aload_n 0, 1) := by decide +kernel
theorem dL_law_146 : decode cL_law 146 = .ok (.iload_n 3, 1) := by decide +kernel
theorem dL_law_147 : decode cL_law 147 = .ok (.iconst 1, 1) := by decide +kernel
theorem dL_law_148 : decode cL_law 148 = .ok (.iadd, 1) := by decide +kernel
theorem dL_law_149 : decode cL_law 149 = .ok (.iaload, 1) := by decide +kernel
theorem dL_law_150 : decode cL_law 150 = .ok (.aload_n 0, 1) := by decide +kernel
theorem dL_law_151 : decode cL_law 151 = .ok (.iload_n 3, 1) := by decide +kernel
theorem dL_law_152 : decode cL_law 152 = .ok (.iconst 2, 1) := by decide +kernel
theorem dL_law_153 : decode cL_law 153 = .ok (.iadd, 1) := by decide +kernel
theorem dL_law_154 : decode cL_law 154 = .ok (.iaload, 1) := by decide +kernel
theorem dL_law_155 : decode cL_law 155 = .ok (.ifCond .eq 7, 3) := by decide +kernel
theorem dL_law_158 : decode cL_law 158 = .ok (.iconst 1, 1) := by decide +kernel
theorem dL_law_159 : decode cL_law 159 = .ok (.goto 4, 3) := by decide +kernel
theorem dL_law_162 : decode cL_law 162 = .ok (.iconst 0, 1) := by decide +kernel
theorem dL_law_163 : decode cL_law 163 = .ok (.invokevirtual 13, 3) := by decide +kernel
theorem dL_law_166 : decode cL_law 166 = .ok (.aload_n 2, 1) := by decide +kernel
theorem dL_law_167 : decode cL_law 167 = .ok (.aload_n 0, 1) := by decide +kernel
theorem dL_law_168 : decode cL_law 168 = .ok (.iload_n 3, 1) := by decide +kernel
theorem dL_law_169 : decode cL_law 169 = .ok (.iconst 1, 1) := by decide +kernel
theorem dL_law_170 : decode cL_law 170 = .ok (.iadd, 1) := by decide +kernel
theorem dL_law_171 : decode cL_law 171 = .ok (.iaload, 1) := by decide +kernel
theorem dL_law_172 : decode cL_law 172 = .ok (.aload_n 0, 1) := by decide +kernel
theorem dL_law_173 : decode cL_law 173 = .ok (.iload_n 3, 1) := by decide +kernel
theorem dL_law_174 : decode cL_law 174 = .ok (.iconst 2, 1) := by decide +kernel
theorem dL_law_175 : decode cL_law 175 = .ok (.iadd, 1) := by decide +kernel
theorem dL_law_176 : decode cL_law 176 = .ok (.iaload, 1) := by decide +kernel
theorem dL_law_177 : decode cL_law 177 = .ok (.ifCond .eq 7, 3) := by decide +kernel
theorem dL_law_180 : decode cL_law 180 = .ok (.iconst 1, 1) := by decide +kernel
theorem dL_law_181 : decode cL_law 181 = .ok (.goto 4, 3) := by decide +kernel
theorem dL_law_184 : decode cL_law 184 = .ok (.iconst 0, 1) := by decide +kernel
theorem dL_law_185 : decode cL_law 185 = .ok (.invokevirtual 17, 3) := by decide +kernel
theorem dL_law_188 : decode cL_law 188 = .ok (.if_icmp .eq 799, 3) := by decide +kernel
theorem dL_law_191 : decode cL_law 191 = .ok (.iconst 0, 1) := by decide +kernel
theorem dL_law_192 : decode cL_law 192 = .ok (.ireturn, 1) := by decide +kernel
theorem dL_law_193 : decode cL_law 193 = .ok (.aload_n 1, 1) := by decide +kernel
theorem dL_law_194 : decode cL_law 194 = .ok (.aload_n 0, 1) := by decide +kernel
theorem dL_law_195 : decode cL_law 195 = .ok (.iload_n 3, 1) := by decide +kernel
theorem dL_law_196 : decode cL_law 196 = .ok (.iconst 1, 1) := by decide +kernel
theorem dL_law_197 : decode cL_law 197 = .ok (.iadd, 1) := by decide +kernel
theorem dL_law_198 : decode cL_law 198 = .ok (.iaload, 1) := by decide +kernel
theorem dL_law_199 : decode cL_law 199 = .ok (.aload_n 0, 1) := by decide +kernel
theorem dL_law_200 : decode cL_law 200 = .ok (.iload_n 3, 1) := by decide +kernel
theorem dL_law_201 : decode cL_law 201 = .ok (.iconst 2, 1) := by decide +kernel
theorem dL_law_202 : decode cL_law 202 = .ok (.iadd, 1) := by decide +kernel
theorem dL_law_203 : decode cL_law 203 = .ok (.iaload, 1) := by decide +kernel
theorem dL_law_204 : decode cL_law 204 = .ok (.invokevirtual 18, 3) := by decide +kernel
theorem dL_law_207 : decode cL_law 207 = .ok (.aload_n 2, 1) := by decide +kernel
theorem dL_law_208 : decode cL_law 208 = .ok (.aload_n 0, 1) := by decide +kernel
theorem dL_law_209 : decode cL_law 209 = .ok (.iload_n 3, 1) := by decide +kernel
theorem dL_law_210 : decode cL_law 210 = .ok (.iconst 1, 1) := by decide +kernel
theorem dL_law_211 : decode cL_law 211 = .ok (.iadd, 1) := by decide +kernel
theorem dL_law_212 : decode cL_law 212 = .ok (.iaload, 1) := by decide +kernel
theorem dL_law_213 : decode cL_law 213 = .ok (.aload_n 0, 1) := by decide +kernel
theorem dL_law_214 : decode cL_law 214 = .ok (.iload_n 3, 1) := by decide +kernel
theorem dL_law_215 : decode cL_law 215 = .ok (.iconst 2, 1) := by decide +kernel
theorem dL_law_216 : decode cL_law 216 = .ok (.iadd, 1) := by decide +kernel
theorem dL_law_217 : decode cL_law 217 = .ok (.iaload, 1) := by decide +kernel
theorem dL_law_218 : decode cL_law 218 = .ok (.invokevirtual 22, 3) := by decide +kernel
theorem dL_law_221 : decode cL_law 221 = .ok (.if_icmp .eq 766, 3) := by decide +kernel
theorem dL_law_224 : decode cL_law 224 = .ok (.iconst 0, 1) := by decide +kernel
theorem dL_law_225 : decode cL_law 225 = .ok (.ireturn, 1) := by decide +kernel
theorem dL_law_226 : decode cL_law 226 = .ok (.aload_n 1, 1) := by decide +kernel
theorem dL_law_227 : decode cL_law 227 = .ok (.aload_n 0, 1) := by decide +kernel
theorem dL_law_228 : decode cL_law 228 = .ok (.iload_n 3, 1) := by decide +kernel
theorem dL_law_229 : decode cL_law 229 = .ok (.iconst 1, 1) := by decide +kernel
theorem dL_law_230 : decode cL_law 230 = .ok (.iadd, 1) := by decide +kernel
theorem dL_law_231 : decode cL_law 231 = .ok (.iaload, 1) := by decide +kernel
theorem dL_law_232 : decode cL_law 232 = .ok (.aload_n 0, 1) := by decide +kernel
theorem dL_law_233 : decode cL_law 233 = .ok (.iload_n 3, 1) := by decide +kernel
theorem dL_law_234 : decode cL_law 234 = .ok (.iconst 2, 1) := by decide +kernel
theorem dL_law_235 : decode cL_law 235 = .ok (.iadd, 1) := by decide +kernel
theorem dL_law_236 : decode cL_law 236 = .ok (.iaload, 1) := by decide +kernel
theorem dL_law_237 : decode cL_law 237 = .ok (.aload_n 0, 1) := by decide +kernel
theorem dL_law_238 : decode cL_law 238 = .ok (.iload_n 3, 1) := by decide +kernel
theorem dL_law_239 : decode cL_law 239 = .ok (.iconst 3, 1) := by decide +kernel
theorem dL_law_240 : decode cL_law 240 = .ok (.iadd, 1) := by decide +kernel
theorem dL_law_241 : decode cL_law 241 = .ok (.iaload, 1) := by decide +kernel
theorem dL_law_242 : decode cL_law 242 = .ok (.aload_n 0, 1) := by decide +kernel
theorem dL_law_243 : decode cL_law 243 = .ok (.iload_n 3, 1) := by decide +kernel
theorem dL_law_244 : decode cL_law 244 = .ok (.iconst 4, 1) := by decide +kernel
theorem dL_law_245 : decode cL_law 245 = .ok (.iadd, 1) := by decide +kernel
theorem dL_law_246 : decode cL_law 246 = .ok (.iaload, 1) := by decide +kernel
theorem dL_law_247 : decode cL_law 247 = .ok (.invokevirtual 23, 3) := by decide +kernel
theorem dL_law_250 : decode cL_law 250 = .ok (.aload_n 2, 1) := by decide +kernel
theorem dL_law_251 : decode cL_law 251 = .ok (.aload_n 0, 1) := by decide +kernel
theorem dL_law_252 : decode cL_law 252 = .ok (.iload_n 3, 1) := by decide +kernel
theorem dL_law_253 : decode cL_law 253 = .ok (.iconst 1, 1) := by decide +kernel
theorem dL_law_254 : decode cL_law 254 = .ok (.iadd, 1) := by decide +kernel
theorem dL_law_255 : decode cL_law 255 = .ok (.iaload, 1) := by decide +kernel
theorem dL_law_256 : decode cL_law 256 = .ok (.aload_n 0, 1) := by decide +kernel
theorem dL_law_257 : decode cL_law 257 = .ok (.iload_n 3, 1) := by decide +kernel
theorem dL_law_258 : decode cL_law 258 = .ok (.iconst 2, 1) := by decide +kernel
theorem dL_law_259 : decode cL_law 259 = .ok (.iadd, 1) := by decide +kernel
theorem dL_law_260 : decode cL_law 260 = .ok (.iaload, 1) := by decide +kernel
theorem dL_law_261 : decode cL_law 261 = .ok (.aload_n 0, 1) := by decide +kernel
theorem dL_law_262 : decode cL_law 262 = .ok (.iload_n 3, 1) := by decide +kernel
theorem dL_law_263 : decode cL_law 263 = .ok (.iconst 3, 1) := by decide +kernel
theorem dL_law_264 : decode cL_law 264 = .ok (.iadd, 1) := by decide +kernel
theorem dL_law_265 : decode cL_law 265 = .ok (.iaload, 1) := by decide +kernel
theorem dL_law_266 : decode cL_law 266 = .ok (.aload_n 0, 1) := by decide +kernel
theorem dL_law_267 : decode cL_law 267 = .ok (.iload_n 3, 1) := by decide +kernel
theorem dL_law_268 : decode cL_law 268 = .ok (.iconst 4, 1) := by decide +kernel
theorem dL_law_269 : decode cL_law 269 = .ok (.iadd, 1) := by decide +kernel
theorem dL_law_270 : decode cL_law 270 = .ok (.iaload, 1) := by decide +kernel
theorem dL_law_271 : decode cL_law 271 = .ok (.invokevirtual 27, 3) := by decide +kernel
theorem dL_law_274 : decode cL_law 274 = .ok (.if_icmp .eq 713, 3) := by decide +kernel
theorem dL_law_277 : decode cL_law 277 = .ok (.iconst 0, 1) := by decide +kernel
theorem dL_law_278 : decode cL_law 278 = .ok (.ireturn, 1) := by decide +kernel
theorem dL_law_279 : decode cL_law 279 = .ok (.aload_n 1, 1) := by decide +kernel
theorem dL_law_280 : decode cL_law 280 = .ok (.aload_n 0, 1) := by decide +kernel
theorem dL_law_281 : decode cL_law 281 = .ok (.iload_n 3, 1) := by decide +kernel
theorem dL_law_282 : decode cL_law 282 = .ok (.iconst 1, 1) := by decide +kernel
theorem dL_law_283 : decode cL_law 283 = .ok (.iadd, 1) := by decide +kernel
theorem dL_law_284 : decode cL_law 284 = .ok (.iaload, 1) := by decide +kernel
theorem dL_law_285 : decode cL_law 285 = .ok (.aload_n 0, 1) := by decide +kernel
theorem dL_law_286 : decode cL_law 286 = .ok (.iload_n 3, 1) := by decide +kernel
theorem dL_law_287 : decode cL_law 287 = .ok (.iconst 2, 1) := by decide +kernel
theorem dL_law_288 : decode cL_law 288 = .ok (.iadd, 1) := by decide +kernel
theorem dL_law_289 : decode cL_law 289 = .ok (.iaload, 1) := by decide +kernel
theorem dL_law_290 : decode cL_law 290 = .ok (.aload_n 0, 1) := by decide +kernel
theorem dL_law_291 : decode cL_law 291 = .ok (.iload_n 3, 1) := by decide +kernel
theorem dL_law_292 : decode cL_law 292 = .ok (.iconst 3, 1) := by decide +kernel
theorem dL_law_293 : decode cL_law 293 = .ok (.iadd, 1) := by decide +kernel
theorem dL_law_294 : decode cL_law 294 = .ok (.iaload, 1) := by decide +kernel
theorem dL_law_295 : decode cL_law 295 = .ok (.aload_n 0, 1) := by decide +kernel
theorem dL_law_296 : decode cL_law 296 = .ok (.iload_n 3, 1) := by decide +kernel
theorem dL_law_297 : decode cL_law 297 = .ok (.iconst 4, 1) := by decide +kernel
theorem dL_law_298 : decode cL_law 298 = .ok (.iadd, 1) := by decide +kernel
theorem dL_law_299 : decode cL_law 299 = .ok (.iaload, 1) := by decide +kernel
theorem dL_law_300 : decode cL_law 300 = .ok (.aload_n 0, 1) := by decide +kernel
theorem dL_law_301 : decode cL_law 301 = .ok (.iload_n 3, 1) := by decide +kernel
theorem dL_law_302 : decode cL_law 302 = .ok (.iconst 5, 1) := by decide +kernel
theorem dL_law_303 : decode cL_law 303 = .ok (.iadd, 1) := by decide +kernel
theorem dL_law_304 : decode cL_law 304 = .ok (.iaload, 1) := by decide +kernel
theorem dL_law_305 : decode cL_law 305 = .ok (.invokevirtual 28, 3) := by decide +kernel
theorem dL_law_308 : decode cL_law 308 = .ok (.aload_n 2, 1) := by decide +kernel
theorem dL_law_309 : decode cL_law 309 = .ok (.aload_n 0, 1) := by decide +kernel
theorem dL_law_310 : decode cL_law 310 = .ok (.iload_n 3, 1) := by decide +kernel
theorem dL_law_311 : decode cL_law 311 = .ok (.iconst 1, 1) := by decide +kernel
theorem dL_law_312 : decode cL_law 312 = .ok (.iadd, 1) := by decide +kernel
theorem dL_law_313 : decode cL_law 313 = .ok (.iaload, 1) := by decide +kernel
theorem dL_law_314 : decode cL_law 314 = .ok (.aload_n 0, 1) := by decide +kernel
theorem dL_law_315 : decode cL_law 315 = .ok (.iload_n 3, 1) := by decide +kernel
theorem dL_law_316 : decode cL_law 316 = .ok (.iconst 2, 1) := by decide +kernel
theorem dL_law_317 : decode cL_law 317 = .ok (.iadd, 1) := by decide +kernel
