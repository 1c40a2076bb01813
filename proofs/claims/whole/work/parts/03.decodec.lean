set_option maxRecDepth 20000 in
theorem ggX6_clear_X3_empty : GoodIn wsX6_clear wsX3_empty := goodIn_r _ [11, 7, 19, 20, 21] (by decide +kernel) (by decide +kernel)
set_option maxRecDepth 20000 in
theorem gX6_clear_X3_empty : GoodIn wsX6_clear (wsV RX6 123 RX3 yX3_empty wsX3_empty) := goodIn_app (goodIn_of _ (by decide +kernel)) ggX6_clear_X3_empty
theorem dX6_clear_0 : decode cX6_clear 0 = .ok (.aload_n 0, 1) := by decide +kernel
theorem dX6_clear_1 : decode cX6_clear 1 = .ok (.getfield 30, 3) := by decide +kernel
theorem dX6_clear_4 : decode cX6_clear 4 = .ok (.invokevirtual 119, 3) := by decide +kernel
theorem dX6_clear_7 : decode cX6_clear 7 = .ok (.istore_n 1, 1) := by decide +kernel
theorem dX6_clear_8 : decode cX6_clear 8 = .ok (.aload_n 0, 1) := by decide +kernel
theorem dX6_clear_9 : decode cX6_clear 9 = .ok (.getfield 30, 3) := by decide +kernel
theorem dX6_clear_12 : decode cX6_clear 12 = .ok (.invokevirtual 123, 3) := by decide +kernel
theorem dX6_clear_15 : decode cX6_clear 15 = .ok (.iload_n 1, 1) := by decide +kernel
theorem dX6_clear_16 : decode cX6_clear 16 = .ok (.ireturn, 1) := by decide +kernel
set_option maxRecDepth 20000 in
theorem ggX6_held_X3_at : GoodIn wsX6_held wsX3_at := goodIn_r _ [6, 7, 8, 16, 17, 18] (by decide +kernel) (by decide +kernel)
set_option maxRecDepth 20000 in
theorem gX6_held_X3_at : GoodIn wsX6_held (wsV RX6 80 RX3 yX3_at wsX3_at) := goodIn_app (goodIn_of _ (by decide +kernel)) ggX6_held_X3_at
theorem dX6_held_0 : decode cX6_held 0 = .ok (.aload_n 0, 1) := by decide +kernel
theorem dX6_held_1 : decode cX6_held 1 = .ok (.getfield 30, 3) := by decide +kernel
theorem dX6_held_4 : decode cX6_held 4 = .ok (.iload_n 1, 1) := by decide +kernel
theorem dX6_held_5 : decode cX6_held 5 = .ok (.invokevirtual 80, 3) := by decide +kernel
theorem dX6_held_8 : decode cX6_held 8 = .ok (.ireturn, 1) := by decide +kernel
set_option maxRecDepth 20000 in
theorem ggX6_sum_X3_total : GoodIn wsX6_sum wsX3_total := goodIn_r _ [9, 10, 11, 12, 13, 14, 15, 16, 17, 18, 19, 20, 21, 22, 23, 24, 25, 26, 27, 37, 38, 39, 35, 36] (by decide +kernel) (by decide +kernel)
set_option maxRecDepth 20000 in
theorem gX6_sum_X3_total : GoodIn wsX6_sum (wsV RX6 126 RX3 yX3_total wsX3_total) := goodIn_app (goodIn_of _ (by decide +kernel)) ggX6_sum_X3_total
theorem dX6_sum_0 : decode cX6_sum 0 = .ok (.iload_n 1, 1) := by decide +kernel
theorem dX6_sum_1 : decode cX6_sum 1 = .ok (.ifCond .eq 12, 3) := by decide +kernel
theorem dX6_sum_4 : decode cX6_sum 4 = .ok (.iload_n 1, 1) := by decide +kernel
theorem dX6_sum_5 : decode cX6_sum 5 = .ok (.iconst 1, 1) := by decide +kernel
theorem dX6_sum_6 : decode cX6_sum 6 = .ok (.if_icmp .eq 7, 3) := by decide +kernel
theorem dX6_sum_9 : decode cX6_sum 9 = .ok (.ldc2_w 97, 3) := by decide +kernel
theorem dX6_sum_12 : decode cX6_sum 12 = .ok (.lreturn, 1) := by decide +kernel
theorem dX6_sum_13 : decode cX6_sum 13 = .ok (.aload_n 0, 1) := by decide +kernel
theorem dX6_sum_14 : decode cX6_sum 14 = .ok (.getfield 30, 3) := by decide +kernel
theorem dX6_sum_17 : decode cX6_sum 17 = .ok (.invokevirtual 126, 3) := by decide +kernel
theorem dX6_sum_20 : decode cX6_sum 20 = .ok (.astore_n 2, 1) := by decide +kernel
theorem dX6_sum_21 : decode cX6_sum 21 = .ok (.iload_n 1, 1) := by decide +kernel
theorem dX6_sum_22 : decode cX6_sum 22 = .ok (.ifCond .ne 10, 3) := by decide +kernel
theorem dX6_sum_25 : decode cX6_sum 25 = .ok (.aload_n 2, 1) := by decide +kernel
theorem dX6_sum_26 : decode cX6_sum 26 = .ok (.getfield 130, 3) := by decide +kernel
theorem dX6_sum_29 : decode cX6_sum 29 = .ok (.goto 7, 3) := by decide +kernel
theorem dX6_sum_32 : decode cX6_sum 32 = .ok (.aload_n 2, 1) := by decide +kernel
theorem dX6_sum_33 : decode cX6_sum 33 = .ok (.getfield 136, 3) := by decide +kernel
theorem dX6_sum_36 : decode cX6_sum 36 = .ok (.lreturn, 1) := by decide +kernel
set_option maxRecDepth 20000 in
theorem ggX6_split_X3_holds : GoodIn wsX6_split wsX3_holds := goodIn_r _ [6, 7, 8, 9, 5, 10, 11, 12, 33, 34, 35] (by decide +kernel) (by decide +kernel)
set_option maxRecDepth 20000 in
theorem gX6_split_X3_holds : GoodIn wsX6_split (wsV RX6 110 RX3 yX3_holds wsX3_holds) := goodIn_app (goodIn_of _ (by decide +kernel)) ggX6_split_X3_holds
set_option maxRecDepth 20000 in
theorem ggX6_split_X3_isFull : GoodIn wsX6_split wsX3_isFull := goodIn_r _ [16, 11, 12, 33, 34, 35] (by decide +kernel) (by decide +kernel)
set_option maxRecDepth 20000 in
theorem gX6_split_X3_isFull : GoodIn wsX6_split (wsV RX6 113 RX3 yX3_isFull wsX3_isFull) := goodIn_app (goodIn_of _ (by decide +kernel)) ggX6_split_X3_isFull
set_option maxRecDepth 20000 in
theorem ggX6_split_X3_remove : GoodIn wsX6_split wsX3_remove := goodIn_r _ [20, 11, 12, 7, 8, 9, 5, 10, 33, 34, 35] (by decide +kernel) (by decide +kernel)
set_option maxRecDepth 20000 in
theorem gX6_split_X3_remove : GoodIn wsX6_split (wsV RX6 120 RX3 yX3_remove wsX3_remove) := goodIn_app (goodIn_of _ (by decide +kernel)) ggX6_split_X3_remove
set_option maxRecDepth 20000 in
theorem ggX6_split_X3_insert : GoodIn wsX6_split wsX3_insert := goodIn_r _ [24, 11, 12, 25, 14, 15, 5, 16, 33, 34, 35] (by decide +kernel) (by decide +kernel)
set_option maxRecDepth 20000 in
theorem gX6_split_X3_insert : GoodIn wsX6_split (wsV RX6 116 RX3 yX3_insert wsX3_insert) := goodIn_app (goodIn_of _ (by decide +kernel)) ggX6_split_X3_insert
theorem dX6_split_0 : decode cX6_split 0 = .ok (.aload_n 0, 1) := by decide +kernel
theorem dX6_split_1 : decode cX6_split 1 = .ok (.getfield 30, 3) := by decide +kernel
theorem dX6_split_4 : decode cX6_split 4 = .ok (.iload_n 1, 1) := by decide +kernel
theorem dX6_split_5 : decode cX6_split 5 = .ok (.invokevirtual 110, 3) := by decide +kernel
theorem dX6_split_8 : decode cX6_split 8 = .ok (.ifCond .ne 6, 3) := by decide +kernel
theorem dX6_split_11 : decode cX6_split 11 = .ok (.bipush (-101), 2) := by decide +kernel
theorem dX6_split_13 : decode cX6_split 13 = .ok (.ireturn, 1) := by decide +kernel
theorem dX6_split_14 : decode cX6_split 14 = .ok (.iload_n 1, 1) := by decide +kernel
theorem dX6_split_15 : decode cX6_split 15 = .ok (.iload_n 1, 1) := by decide +kernel
theorem dX6_split_16 : decode cX6_split 16 = .ok (.iconst 1, 1) := by decide +kernel
theorem dX6_split_17 : decode cX6_split 17 = .ok (.iadd, 1) := by decide +kernel
theorem dX6_split_18 : decode cX6_split 18 = .ok (.imul, 1) := by decide +kernel
theorem dX6_split_19 : decode cX6_split 19 = .ok (.istore_n 2, 1) := by decide +kernel
theorem dX6_split_20 : decode cX6_split 20 = .ok (.iload_n 2, 1) := by decide +kernel
theorem dX6_split_21 : decode cX6_split 21 = .ok (.sipush 1000, 3) := by decide +kernel
theorem dX6_split_24 : decode cX6_split 24 = .ok (.if_icmp .le 6, 3) := by decide +kernel
theorem dX6_split_27 : decode cX6_split 27 = .ok (.bipush (-102), 2) := by decide +kernel
theorem dX6_split_29 : decode cX6_split 29 = .ok (.ireturn, 1) := by decide +kernel
theorem dX6_split_30 : decode cX6_split 30 = .ok (.aload_n 0, 1) := by decide +kernel
theorem dX6_split_31 : decode cX6_split 31 = .ok (.getfield 30, 3) := by decide +kernel
theorem dX6_split_34 : decode cX6_split 34 = .ok (.iload_n 1, 1) := by decide +kernel
theorem dX6_split_35 : decode cX6_split 35 = .ok (.iconst 1, 1) := by decide +kernel
theorem dX6_split_36 : decode cX6_split 36 = .ok (.iadd, 1) := by decide +kernel
theorem dX6_split_37 : decode cX6_split 37 = .ok (.invokevirtual 110, 3) := by decide +kernel
theorem dX6_split_40 : decode cX6_split 40 = .ok (.ifCond .ne 14, 3) := by decide +kernel
theorem dX6_split_43 : decode cX6_split 43 = .ok (.aload_n 0, 1) := by decide +kernel
theorem dX6_split_44 : decode cX6_split 44 = .ok (.getfield 30, 3) := by decide +kernel
theorem dX6_split_47 : decode cX6_split 47 = .ok (.iload_n 2, 1) := by decide +kernel
theorem dX6_split_48 : decode cX6_split 48 = .ok (.invokevirtual 110, 3) := by decide +kernel
theorem dX6_split_51 : decode cX6_split 51 = .ok (.ifCond .eq 6, 3) := by decide +kernel
theorem dX6_split_54 : decode cX6_split 54 = .ok (.bipush (-103), 2) := by decide +kernel
theorem dX6_split_56 : decode cX6_split 56 = .ok (.ireturn, 1) := by decide +kernel
theorem dX6_split_57 : decode cX6_split 57 = .ok (.aload_n 0, 1) := by decide +kernel
theorem dX6_split_58 : decode cX6_split 58 = .ok (.getfield 30, 3) := by decide +kernel
theorem dX6_split_61 : decode cX6_split 61 = .ok (.invokevirtual 113, 3) := by decide +kernel
theorem dX6_split_64 : decode cX6_split 64 = .ok (.ifCond .eq 6, 3) := by decide +kernel
theorem dX6_split_67 : decode cX6_split 67 = .ok (.bipush (-104), 2) := by decide +kernel
theorem dX6_split_69 : decode cX6_split 69 = .ok (.ireturn, 1) := by decide +kernel
theorem dX6_split_70 : decode cX6_split 70 = .ok (.aload_n 0, 1) := by decide +kernel
theorem dX6_split_71 : decode cX6_split 71 = .ok (.getfield 30, 3) := by decide +kernel
theorem dX6_split_74 : decode cX6_split 74 = .ok (.iload_n 1, 1) := by decide +kernel
theorem dX6_split_75 : decode cX6_split 75 = .ok (.invokevirtual 120, 3) := by decide +kernel
theorem dX6_split_78 : decode cX6_split 78 = .ok (.aload_n 0, 1) := by decide +kernel
theorem dX6_split_79 : decode cX6_split 79 = .ok (.getfield 30, 3) := by decide +kernel
theorem dX6_split_82 : decode cX6_split 82 = .ok (.iload_n 1, 1) := by decide +kernel
theorem dX6_split_83 : decode cX6_split 83 = .ok (.iconst 1, 1) := by decide +kernel
theorem dX6_split_84 : decode cX6_split 84 = .ok (.iadd, 1) := by decide +kernel
theorem dX6_split_85 : decode cX6_split 85 = .ok (.invokevirtual 116, 3) := by decide +kernel
theorem dX6_split_88 : decode cX6_split 88 = .ok (.aload_n 0, 1) := by decide +kernel
theorem dX6_split_89 : decode cX6_split 89 = .ok (.getfield 30, 3) := by decide +kernel
theorem dX6_split_92 : decode cX6_split 92 = .ok (.iload_n 2, 1) := by decide +kernel
theorem dX6_split_93 : decode cX6_split 93 = .ok (.invokevirtual 116, 3) := by decide +kernel
theorem dX6_split_96 : decode cX6_split 96 = .ok (.iload_n 2, 1) := by decide +kernel
theorem dX6_split_97 : decode cX6_split 97 = .ok (.ireturn, 1) := by decide +kernel
set_option maxRecDepth 20000 in
theorem ggX6_join_X3_holds : GoodIn wsX6_join wsX3_holds := goodIn_r _ [6, 7, 8, 9, 5, 10, 11, 12, 32, 33, 34] (by decide +kernel) (by decide +kernel)
set_option maxRecDepth 20000 in
theorem gX6_join_X3_holds : GoodIn wsX6_join (wsV RX6 110 RX3 yX3_holds wsX3_holds) := goodIn_app (goodIn_of _ (by decide +kernel)) ggX6_join_X3_holds
set_option maxRecDepth 20000 in
theorem ggX6_join_X3_remove : GoodIn wsX6_join wsX3_remove := goodIn_r _ [16, 11, 12, 7, 8, 9, 5, 10, 32, 33, 34] (by decide +kernel) (by decide +kernel)
set_option maxRecDepth 20000 in
theorem gX6_join_X3_remove : GoodIn wsX6_join (wsV RX6 120 RX3 yX3_remove wsX3_remove) := goodIn_app (goodIn_of _ (by decide +kernel)) ggX6_join_X3_remove
set_option maxRecDepth 20000 in
theorem ggX6_join_X3_insert : GoodIn wsX6_join wsX3_insert := goodIn_r _ [20, 11, 12, 21, 22, 23, 5, 24, 32, 33, 34] (by decide +kernel) (by decide +kernel)
set_option maxRecDepth 20000 in
theorem gX6_join_X3_insert : GoodIn wsX6_join (wsV RX6 116 RX3 yX3_insert wsX3_insert) := goodIn_app (goodIn_of _ (by decide +kernel)) ggX6_join_X3_insert
theorem dX6_join_0 : decode cX6_join 0 = .ok (.aload_n 0, 1) := by decide +kernel
theorem dX6_join_1 : decode cX6_join 1 = .ok (.getfield 30, 3) := by decide +kernel
theorem dX6_join_4 : decode cX6_join 4 = .ok (.iload_n 1, 1) := by decide +kernel
theorem dX6_join_5 : decode cX6_join 5 = .ok (.invokevirtual 110, 3) := by decide +kernel
theorem dX6_join_8 : decode cX6_join 8 = .ok (.ifCond .eq 14, 3) := by decide +kernel
theorem dX6_join_11 : decode cX6_join 11 = .ok (.aload_n 0, 1) := by decide +kernel
theorem dX6_join_12 : decode cX6_join 12 = .ok (.getfield 30, 3) := by decide +kernel
theorem dX6_join_15 : decode cX6_join 15 = .ok (.iload_n 2, 1) := by decide +kernel
theorem dX6_join_16 : decode cX6_join 16 = .ok (.invokevirtual 110, 3) := by decide +kernel
theorem dX6_join_19 : decode cX6_join 19 = .ok (.ifCond .ne 6, 3) := by decide +kernel
theorem dX6_join_22 : decode cX6_join 22 = .ok (.bipush (-101), 2) := by decide +kernel
theorem dX6_join_24 : decode cX6_join 24 = .ok (.ireturn, 1) := by decide +kernel
theorem dX6_join_25 : decode cX6_join 25 = .ok (.iload_n 1, 1) := by decide +kernel
theorem dX6_join_26 : decode cX6_join 26 = .ok (.iload_n 2, 1) := by decide +kernel
theorem dX6_join_27 : decode cX6_join 27 = .ok (.iadd, 1) := by decide +kernel
theorem dX6_join_28 : decode cX6_join 28 = .ok (.istore_n 3, 1) := by decide +kernel
theorem dX6_join_29 : decode cX6_join 29 = .ok (.iload_n 1, 1) := by decide +kernel
theorem dX6_join_30 : decode cX6_join 30 = .ok (.iload_n 2, 1) := by decide +kernel
theorem dX6_join_31 : decode cX6_join 31 = .ok (.if_icmp .eq 15, 3) := by decide +kernel
theorem dX6_join_34 : decode cX6_join 34 = .ok (.iload_n 3, 1) := by decide +kernel
theorem dX6_join_35 : decode cX6_join 35 = .ok (.ifCond .le 11, 3) := by decide +kernel
theorem dX6_join_38 : decode cX6_join 38 = .ok (.iload_n 1, 1) := by decide +kernel
theorem dX6_join_39 : decode cX6_join 39 = .ok (.iload_n 2, 1) := by decide +kernel
theorem dX6_join_40 : decode cX6_join 40 = .ok (.imul, 1) := by decide +kernel
theorem dX6_join_41 : decode cX6_join 41 = .ok (.iload_n 3, 1) := by decide +kernel
theorem dX6_join_42 : decode cX6_join 42 = .ok (.irem, 1) := by decide +kernel
theorem dX6_join_43 : decode cX6_join 43 = .ok (.ifCond .eq 6, 3) := by decide +kernel
theorem dX6_join_46 : decode cX6_join 46 = .ok (.bipush (-102), 2) := by decide +kernel
theorem dX6_join_48 : decode cX6_join 48 = .ok (.ireturn, 1) := by decide +kernel
theorem dX6_join_49 : decode cX6_join 49 = .ok (.iload_n 1, 1) := by decide +kernel
theorem dX6_join_50 : decode cX6_join 50 = .ok (.iload_n 2, 1) := by decide +kernel
theorem dX6_join_51 : decode cX6_join 51 = .ok (.imul, 1) := by decide +kernel
theorem dX6_join_52 : decode cX6_join 52 = .ok (.iload_n 3, 1) := by decide +kernel
theorem dX6_join_53 : decode cX6_join 53 = .ok (.idiv, 1) := by decide +kernel
theorem dX6_join_54 : decode cX6_join 54 = .ok (.istore 4, 2) := by decide +kernel
theorem dX6_join_56 : decode cX6_join 56 = .ok (.iload 4, 2) := by decide +kernel
theorem dX6_join_58 : decode cX6_join 58 = .ok (.iconst 2, 1) := by decide +kernel
theorem dX6_join_59 : decode cX6_join 59 = .ok (.if_icmp .ge 6, 3) := by decide +kernel
theorem dX6_join_62 : decode cX6_join 62 = .ok (.bipush (-102), 2) := by decide +kernel
theorem dX6_join_64 : decode cX6_join 64 = .ok (.ireturn, 1) := by decide +kernel
theorem dX6_join_65 : decode cX6_join 65 = .ok (.iload 4, 2) := by decide +kernel
theorem dX6_join_67 : decode cX6_join 67 = .ok (.iload_n 1, 1) := by decide +kernel
theorem dX6_join_68 : decode cX6_join 68 = .ok (.if_icmp .eq 24, 3) := by decide +kernel
theorem dX6_join_71 : decode cX6_join 71 = .ok (.iload 4, 2) := by decide +kernel
theorem dX6_join_73 : decode cX6_join 73 = .ok (.iload_n 2, 1) := by decide +kernel
theorem dX6_join_74 : decode cX6_join 74 = .ok (.if_icmp .eq 18, 3) := by decide +kernel
theorem dX6_join_77 : decode cX6_join 77 = .ok (.aload_n 0, 1) := by decide +kernel
theorem dX6_join_78 : decode cX6_join 78 = .ok (.getfield 30, 3) := by decide +kernel
theorem dX6_join_81 : decode cX6_join 81 = .ok (.iload 4, 2) := by decide +kernel
theorem dX6_join_83 : decode cX6_join 83 = .ok (.invokevirtual 110, 3) := by decide +kernel
theorem dX6_join_86 : decode cX6_join 86 = .ok (.ifCond .eq 6, 3) := by decide +kernel
theorem dX6_join_89 : decode cX6_join 89 = .ok (.bipush (-103), 2) := by decide +kernel
theorem dX6_join_91 : decode cX6_join 91 = .ok (.ireturn, 1) := by decide +kernel
theorem dX6_join_92 : decode cX6_join 92 = .ok (.aload_n 0, 1) := by decide +kernel
theorem dX6_join_93 : decode cX6_join 93 = .ok (.getfield 30, 3) := by decide +kernel
theorem dX6_join_96 : decode cX6_join 96 = .ok (.iload_n 1, 1) := by decide +kernel
theorem dX6_join_97 : decode cX6_join 97 = .ok (.invokevirtual 120, 3) := by decide +kernel
theorem dX6_join_100 : decode cX6_join 100 = .ok (.aload_n 0, 1) := by decide +kernel
theorem dX6_join_101 : decode cX6_join 101 = .ok (.getfield 30, 3) := by decide +kernel
theorem dX6_join_104 : decode cX6_join 104 = .ok (.iload_n 2, 1) := by decide +kernel
theorem dX6_join_105 : decode cX6_join 105 = .ok (.invokevirtual 120, 3) := by decide +kernel
theorem dX6_join_108 : decode cX6_join 108 = .ok (.aload_n 0, 1) := by decide +kernel
theorem dX6_join_109 : decode cX6_join 109 = .ok (.getfield 30, 3) := by decide +kernel
theorem dX6_join_112 : decode cX6_join 112 = .ok (.iload 4, 2) := by decide +kernel
theorem dX6_join_114 : decode cX6_join 114 = .ok (.invokevirtual 116, 3) := by decide +kernel
theorem dX6_join_117 : decode cX6_join 117 = .ok (.iload 4, 2) := by decide +kernel
theorem dX6_join_119 : decode cX6_join 119 = .ok (.ireturn, 1) := by decide +kernel
set_option maxRecDepth 20000 in
theorem ggX6_against_X6_isFraction : GoodIn wsX6_against wsX6_isFraction := goodIn_r _ [7] (by decide +kernel) (by decide +kernel)
set_option maxRecDepth 20000 in
theorem gX6_against_X6_isFraction : GoodIn wsX6_against (va_wsS RX6 83 yX6_isFraction wsX6_isFraction) := goodIn_app (goodIn_of _ (by decide +kernel)) ggX6_against_X6_isFraction
set_option maxRecDepth 20000 in
theorem ggX6_against_X3_total : GoodIn wsX6_against wsX3_total := goodIn_r _ [12, 13, 14, 15, 16, 17, 18, 19, 20, 21, 22, 23, 24, 25, 26, 27, 28, 29, 30, 44, 45, 46, 42, 43] (by decide +kernel) (by decide +kernel)
set_option maxRecDepth 20000 in
theorem gX6_against_X3_total : GoodIn wsX6_against (wsV RX6 126 RX3 yX3_total wsX3_total) := goodIn_app (goodIn_of _ (by decide +kernel)) ggX6_against_X3_total
set_option maxRecDepth 20000 in
theorem ggX6_against_J13_compare_74951 : GoodIn wsX6_against wsJ13_compare_74951 := goodIn_r _ [34] (by decide +kernel) (by decide +kernel)
set_option maxRecDepth 20000 in
theorem gX6_against_J13_compare_74951 : GoodIn wsX6_against (va_wsS RX6 139 yJ13_compare_74951 wsJ13_compare_74951) := goodIn_app (goodIn_of _ (by decide +kernel)) ggX6_against_J13_compare_74951
theorem dX6_against_0 : decode cX6_against 0 = .ok (.iload_n 1, 1) := by decide +kernel
theorem dX6_against_1 : decode cX6_against 1 = .ok (.iload_n 2, 1) := by decide +kernel
theorem dX6_against_2 : decode cX6_against 2 = .ok (.invokestatic 83, 3) := by decide +kernel
theorem dX6_against_5 : decode cX6_against 5 = .ok (.ifCond .ne 6, 3) := by decide +kernel
theorem dX6_against_8 : decode cX6_against 8 = .ok (.bipush (-102), 2) := by decide +kernel
theorem dX6_against_10 : decode cX6_against 10 = .ok (.ireturn, 1) := by decide +kernel
theorem dX6_against_11 : decode cX6_against 11 = .ok (.aload_n 0, 1) := by decide +kernel
theorem dX6_against_12 : decode cX6_against 12 = .ok (.getfield 30, 3) := by decide +kernel
theorem dX6_against_15 : decode cX6_against 15 = .ok (.invokevirtual 126, 3) := by decide +kernel
theorem dX6_against_18 : decode cX6_against 18 = .ok (.astore_n 3, 1) := by decide +kernel
theorem dX6_against_19 : decode cX6_against 19 = .ok (.aload_n 3, 1) := by decide +kernel
theorem dX6_against_20 : decode cX6_against 20 = .ok (.getfield 130, 3) := by decide +kernel
theorem dX6_against_23 : decode cX6_against 23 = .ok (.iload_n 2, 1) := by decide +kernel
theorem dX6_against_24 : decode cX6_against 24 = .ok (.i2l, 1) := by decide +kernel
theorem dX6_against_25 : decode cX6_against 25 = .ok (.lmul, 1) := by decide +kernel
theorem dX6_against_26 : decode cX6_against 26 = .ok (.aload_n 3, 1) := by decide +kernel
theorem dX6_against_27 : decode cX6_against 27 = .ok (.getfield 136, 3) := by decide +kernel
theorem dX6_against_30 : decode cX6_against 30 = .ok (.iload_n 1, 1) := by decide +kernel
theorem dX6_against_31 : decode cX6_against 31 = .ok (.i2l, 1) := by decide +kernel
theorem dX6_against_32 : decode cX6_against 32 = .ok (.lmul, 1) := by decide +kernel
theorem dX6_against_33 : decode cX6_against 33 = .ok (.invokestatic 139, 3) := by decide +kernel
theorem dX6_against_36 : decode cX6_against 36 = .ok (.ireturn, 1) := by decide +kernel
set_option maxRecDepth 20000 in
theorem ggX6_pairs_X6_isFraction : GoodIn wsX6_pairs wsX6_isFraction := goodIn_r _ [5] (by decide +kernel) (by decide +kernel)
set_option maxRecDepth 20000 in
theorem gX6_pairs_X6_isFraction : GoodIn wsX6_pairs (va_wsS RX6 83 yX6_isFraction wsX6_isFraction) := goodIn_app (goodIn_of _ (by decide +kernel)) ggX6_pairs_X6_isFraction
set_option maxRecDepth 20000 in
theorem ggX6_pairs_X0_countPairs : GoodIn wsX6_pairs wsX0_countPairs := goodIn_r _ [10, 11, 12, 13, 14, 9, 15, 16, 17, 18, 19, 20, 21, 22, 23, 24, 25, 26, 27, 28, 29, 30, 31, 32, 33, 34, 35, 36, 44, 45, 46, 47, 48] (by decide +kernel) (by decide +kernel)
set_option maxRecDepth 20000 in
theorem gX6_pairs_X0_countPairs : GoodIn wsX6_pairs (wsV RX6 145 RX0 yX0_countPairs wsX0_countPairs) := goodIn_app (goodIn_of _ (by decide +kernel)) ggX6_pairs_X0_countPairs
theorem dX6_pairs_0 : decode cX6_pairs 0 = .ok (.iload_n 1, 1) := by decide +kernel
theorem dX6_pairs_1 : decode cX6_pairs 1 = .ok (.iload_n 2, 1) := by decide +kernel
theorem dX6_pairs_2 : decode cX6_pairs 2 = .ok (.invokestatic 83, 3) := by decide +kernel
theorem dX6_pairs_5 : decode cX6_pairs 5 = .ok (.ifCond .ne 6, 3) := by decide +kernel
theorem dX6_pairs_8 : decode cX6_pairs 8 = .ok (.bipush (-102), 2) := by decide +kernel
theorem dX6_pairs_10 : decode cX6_pairs 10 = .ok (.ireturn, 1) := by decide +kernel
theorem dX6_pairs_11 : decode cX6_pairs 11 = .ok (.aload_n 0, 1) := by decide +kernel
theorem dX6_pairs_12 : decode cX6_pairs 12 = .ok (.getfield 37, 3) := by decide +kernel
theorem dX6_pairs_15 : decode cX6_pairs 15 = .ok (.iload_n 1, 1) := by decide +kernel
theorem dX6_pairs_16 : decode cX6_pairs 16 = .ok (.iload_n 2, 1) := by decide +kernel
theorem dX6_pairs_17 : decode cX6_pairs 17 = .ok (.invokevirtual 145, 3) := by decide +kernel
theorem dX6_pairs_20 : decode cX6_pairs 20 = .ok (.ireturn, 1) := by decide +kernel
set_option maxRecDepth 20000 in
theorem ggX6_pair_X6_isFraction : GoodIn wsX6_pair wsX6_isFraction := goodIn_r _ [5] (by decide +kernel) (by decide +kernel)
set_option maxRecDepth 20000 in
theorem gX6_pair_X6_isFraction : GoodIn wsX6_pair (va_wsS RX6 83 yX6_isFraction wsX6_isFraction) := goodIn_app (goodIn_of _ (by decide +kernel)) ggX6_pair_X6_isFraction
set_option maxRecDepth 20000 in
theorem ggX6_pair_X0_partOfPair : GoodIn wsX6_pair wsX0_partOfPair := goodIn_r _ [10, 11, 12, 13, 9, 14, 15, 16, 17, 18, 19, 20, 21, 22, 23, 24, 25, 26, 27, 28, 29, 30, 31, 32, 33, 34, 35, 36, 37, 38, 39, 40, 48, 49, 50, 51, 52] (by decide +kernel) (by decide +kernel)
set_option maxRecDepth 20000 in
theorem gX6_pair_X0_partOfPair : GoodIn wsX6_pair (wsV RX6 149 RX0 yX0_partOfPair wsX0_partOfPair) := goodIn_app (goodIn_of _ (by decide +kernel)) ggX6_pair_X0_partOfPair
theorem dX6_pair_0 : decode cX6_pair 0 = .ok (.iload_n 1, 1) := by decide +kernel
theorem dX6_pair_1 : decode cX6_pair 1 = .ok (.iload_n 2, 1) := by decide +kernel
theorem dX6_pair_2 : decode cX6_pair 2 = .ok (.invokestatic 83, 3) := by decide +kernel
theorem dX6_pair_5 : decode cX6_pair 5 = .ok (.ifCond .eq 14, 3) := by decide +kernel
theorem dX6_pair_8 : decode cX6_pair 8 = .ok (.iload 4, 2) := by decide +kernel
theorem dX6_pair_10 : decode cX6_pair 10 = .ok (.ifCond .lt 9, 3) := by decide +kernel
theorem dX6_pair_13 : decode cX6_pair 13 = .ok (.iload 4, 2) := by decide +kernel
theorem dX6_pair_15 : decode cX6_pair 15 = .ok (.iconst 1, 1) := by decide +kernel
theorem dX6_pair_16 : decode cX6_pair 16 = .ok (.if_icmp .le 6, 3) := by decide +kernel
theorem dX6_pair_19 : decode cX6_pair 19 = .ok (.bipush (-102), 2) := by decide +kernel
theorem dX6_pair_21 : decode cX6_pair 21 = .ok (.ireturn, 1) := by decide +kernel
theorem dX6_pair_22 : decode cX6_pair 22 = .ok (.aload_n 0, 1) := by decide +kernel
theorem dX6_pair_23 : decode cX6_pair 23 = .ok (.getfield 37, 3) := by decide +kernel
theorem dX6_pair_26 : decode cX6_pair 26 = .ok (.iload_n 1, 1) := by decide +kernel
theorem dX6_pair_27 : decode cX6_pair 27 = .ok (.iload_n 2, 1) := by decide +kernel
theorem dX6_pair_28 : decode cX6_pair 28 = .ok (.iload_n 3, 1) := by decide +kernel
theorem dX6_pair_29 : decode cX6_pair 29 = .ok (.iload 4, 2) := by decide +kernel
theorem dX6_pair_31 : decode cX6_pair 31 = .ok (.invokevirtual 149, 3) := by decide +kernel
theorem dX6_pair_34 : decode cX6_pair 34 = .ok (.ireturn, 1) := by decide +kernel
set_option maxRecDepth 20000 in
theorem ggX6_triples_X6_tripleRefusal : GoodIn wsX6_triples wsX6_tripleRefusal := goodIn_r _ [7, 1, 8, 9, 6, 10, 47, 48, 49, 50, 51, 52, 53] (by decide +kernel) (by decide +kernel)
set_option maxRecDepth 20000 in
theorem gX6_triples_X6_tripleRefusal : GoodIn wsX6_triples (wsV RX6 153 RX6 yX6_tripleRefusal wsX6_tripleRefusal) := goodIn_app (goodIn_of _ (by decide +kernel)) ggX6_triples_X6_tripleRefusal
set_option maxRecDepth 20000 in
theorem ggX6_triples_X0_countTriples : GoodIn wsX6_triples wsX0_countTriples := goodIn_r _ [15, 16, 17, 18, 19, 14, 20, 21, 22, 23, 24, 25, 26, 27, 28, 29, 30, 31, 32, 33, 34, 35, 36, 37, 38, 39, 40, 41, 42, 43, 44, 45, 46, 54, 55, 56, 57, 58] (by decide +kernel) (by decide +kernel)
set_option maxRecDepth 20000 in
theorem gX6_triples_X0_countTriples : GoodIn wsX6_triples (wsV RX6 161 RX0 yX0_countTriples wsX0_countTriples) := goodIn_app (goodIn_of _ (by decide +kernel)) ggX6_triples_X0_countTriples
theorem dX6_triples_0 : decode cX6_triples 0 = .ok (.aload_n 0, 1) := by decide +kernel
theorem dX6_triples_1 : decode cX6_triples 1 = .ok (.iload_n 1, 1) := by decide +kernel
theorem dX6_triples_2 : decode cX6_triples 2 = .ok (.iload_n 2, 1) := by decide +kernel
theorem dX6_triples_3 : decode cX6_triples 3 = .ok (.iconst 0, 1) := by decide +kernel
theorem dX6_triples_4 : decode cX6_triples 4 = .ok (.invokevirtual 153, 3) := by decide +kernel
theorem dX6_triples_7 : decode cX6_triples 7 = .ok (.istore_n 3, 1) := by decide +kernel
theorem dX6_triples_8 : decode cX6_triples 8 = .ok (.iload_n 3, 1) := by decide +kernel
theorem dX6_triples_9 : decode cX6_triples 9 = .ok (.ifCond .eq 5, 3) := by decide +kernel
theorem dX6_triples_12 : decode cX6_triples 12 = .ok (.iload_n 3, 1) := by decide +kernel
theorem dX6_triples_13 : decode cX6_triples 13 = .ok (.ireturn, 1) := by decide +kernel
theorem dX6_triples_14 : decode cX6_triples 14 = .ok (.aload_n 0, 1) := by decide +kernel
theorem dX6_triples_15 : decode cX6_triples 15 = .ok (.dup, 1) := by decide +kernel
theorem dX6_triples_16 : decode cX6_triples 16 = .ok (.getfield 157, 3) := by decide +kernel
theorem dX6_triples_19 : decode cX6_triples 19 = .ok (.iconst 1, 1) := by decide +kernel
theorem dX6_triples_20 : decode cX6_triples 20 = .ok (.iadd, 1) := by decide +kernel
theorem dX6_triples_21 : decode cX6_triples 21 = .ok (.putfield 157, 3) := by decide +kernel
theorem dX6_triples_24 : decode cX6_triples 24 = .ok (.aload_n 0, 1) := by decide +kernel
theorem dX6_triples_25 : decode cX6_triples 25 = .ok (.getfield 37, 3) := by decide +kernel
theorem dX6_triples_28 : decode cX6_triples 28 = .ok (.iload_n 1, 1) := by decide +kernel
theorem dX6_triples_29 : decode cX6_triples 29 = .ok (.iload_n 2, 1) := by decide +kernel
theorem dX6_triples_30 : decode cX6_triples 30 = .ok (.invokevirtual 161, 3) := by decide +kernel
theorem dX6_triples_33 : decode cX6_triples 33 = .ok (.ireturn, 1) := by decide +kernel
set_option maxRecDepth 20000 in
theorem ggX6_triple_X6_tripleRefusal : GoodIn wsX6_triple wsX6_tripleRefusal := goodIn_r _ [7, 1, 8, 9, 6, 10, 51, 52, 53, 54, 55, 56, 57] (by decide +kernel) (by decide +kernel)
set_option maxRecDepth 20000 in
theorem gX6_triple_X6_tripleRefusal : GoodIn wsX6_triple (wsV RX6 153 RX6 yX6_tripleRefusal wsX6_tripleRefusal) := goodIn_app (goodIn_of _ (by decide +kernel)) ggX6_triple_X6_tripleRefusal
set_option maxRecDepth 20000 in
theorem ggX6_triple_X0_partOfTriple : GoodIn wsX6_triple wsX0_partOfTriple := goodIn_r _ [15, 16, 17, 18, 14, 19, 20, 21, 22, 23, 24, 25, 26, 27, 28, 29, 30, 31, 32, 33, 34, 35, 36, 37, 38, 39, 40, 41, 42, 43, 44, 45, 46, 47, 48, 49, 50, 58, 59, 60, 61, 62] (by decide +kernel) (by decide +kernel)
set_option maxRecDepth 20000 in
theorem gX6_triple_X0_partOfTriple : GoodIn wsX6_triple (wsV RX6 164 RX0 yX0_partOfTriple wsX0_partOfTriple) := goodIn_app (goodIn_of _ (by decide +kernel)) ggX6_triple_X0_partOfTriple
theorem dX6_triple_0 : decode cX6_triple 0 = .ok (.aload_n 0, 1) := by decide +kernel
theorem dX6_triple_1 : decode cX6_triple 1 = .ok (.iload_n 1, 1) := by decide +kernel
theorem dX6_triple_2 : decode cX6_triple 2 = .ok (.iload_n 2, 1) := by decide +kernel
theorem dX6_triple_3 : decode cX6_triple 3 = .ok (.iload 4, 2) := by decide +kernel
theorem dX6_triple_5 : decode cX6_triple 5 = .ok (.invokevirtual 153, 3) := by decide +kernel
theorem dX6_triple_8 : decode cX6_triple 8 = .ok (.istore 5, 2) := by decide +kernel
theorem dX6_triple_10 : decode cX6_triple 10 = .ok (.iload 5, 2) := by decide +kernel
theorem dX6_triple_12 : decode cX6_triple 12 = .ok (.ifCond .eq 6, 3) := by decide +kernel
theorem dX6_triple_15 : decode cX6_triple 15 = .ok (.iload 5, 2) := by decide +kernel
theorem dX6_triple_17 : decode cX6_triple 17 = .ok (.ireturn, 1) := by decide +kernel
theorem dX6_triple_18 : decode cX6_triple 18 = .ok (.aload_n 0, 1) := by decide +kernel
theorem dX6_triple_19 : decode cX6_triple 19 = .ok (.dup, 1) := by decide +kernel
theorem dX6_triple_20 : decode cX6_triple 20 = .ok (.getfield 157, 3) := by decide +kernel
theorem dX6_triple_23 : decode cX6_triple 23 = .ok (.iconst 1, 1) := by decide +kernel
theorem dX6_triple_24 : decode cX6_triple 24 = .ok (.iadd, 1) := by decide +kernel
theorem dX6_triple_25 : decode cX6_triple 25 = .ok (.putfield 157, 3) := by decide +kernel
theorem dX6_triple_28 : decode cX6_triple 28 = .ok (.aload_n 0, 1) := by decide +kernel
theorem dX6_triple_29 : decode cX6_triple 29 = .ok (.getfield 37, 3) := by decide +kernel
theorem dX6_triple_32 : decode cX6_triple 32 = .ok (.iload_n 1, 1) := by decide +kernel
theorem dX6_triple_33 : decode cX6_triple 33 = .ok (.iload_n 2, 1) := by decide +kernel
theorem dX6_triple_34 : decode cX6_triple 34 = .ok (.iload_n 3, 1) := by decide +kernel
theorem dX6_triple_35 : decode cX6_triple 35 = .ok (.iload 4, 2) := by decide +kernel
theorem dX6_triple_37 : decode cX6_triple 37 = .ok (.invokevirtual 164, 3) := by decide +kernel
theorem dX6_triple_40 : decode cX6_triple 40 = .ok (.ireturn, 1) := by decide +kernel
set_option maxRecDepth 20000 in
theorem ggX6_count_X3_size : GoodIn wsX6_count wsX3_size := goodIn_r _ [9, 10, 33, 34, 35] (by decide +kernel) (by decide +kernel)
set_option maxRecDepth 20000 in
theorem gX6_count_X3_size : GoodIn wsX6_count (wsV RX6 119 RX3 yX3_size wsX3_size) := goodIn_app (goodIn_of _ (by decide +kernel)) ggX6_count_X3_size
set_option maxRecDepth 20000 in
theorem ggX6_count_X6_barredNumbers : GoodIn wsX6_count wsX6_barredNumbers := goodIn_r _ [15, 16, 17, 18, 14, 19, 26, 27, 28, 29, 30, 31, 32] (by decide +kernel) (by decide +kernel)
set_option maxRecDepth 20000 in
theorem gX6_count_X6_barredNumbers : GoodIn wsX6_count (wsV RX6 167 RX6 yX6_barredNumbers wsX6_barredNumbers) := goodIn_app (goodIn_of _ (by decide +kernel)) ggX6_count_X6_barredNumbers
set_option maxRecDepth 20000 in
theorem ggX6_count_X2_size : GoodIn wsX6_count wsX2_size := goodIn_r _ [24, 25, 36, 37, 38, 39, 40] (by decide +kernel) (by decide +kernel)
set_option maxRecDepth 20000 in
theorem gX6_count_X2_size : GoodIn wsX6_count (wsV RX6 90 RX2 yX2_size wsX2_size) := goodIn_app (goodIn_of _ (by decide +kernel)) ggX6_count_X2_size
theorem dX6_count_0 : decode cX6_count 0 = .ok (.iload_n 1, 1) := by decide +kernel
theorem dX6_count_1 : decode cX6_count 1 = .ok (.tableswitch 66 0 4 #[35, 43, 48, 53, 58], 35) := by decide +kernel
theorem dX6_count_36 : decode cX6_count 36 = .ok (.aload_n 0, 1) := by decide +kernel
theorem dX6_count_37 : decode cX6_count 37 = .ok (.getfield 30, 3) := by decide +kernel
theorem dX6_count_40 : decode cX6_count 40 = .ok (.invokevirtual 119, 3) := by decide +kernel
theorem dX6_count_43 : decode cX6_count 43 = .ok (.ireturn, 1) := by decide +kernel
theorem dX6_count_44 : decode cX6_count 44 = .ok (.aload_n 0, 1) := by decide +kernel
theorem dX6_count_45 : decode cX6_count 45 = .ok (.invokevirtual 167, 3) := by decide +kernel
theorem dX6_count_48 : decode cX6_count 48 = .ok (.ireturn, 1) := by decide +kernel
theorem dX6_count_49 : decode cX6_count 49 = .ok (.aload_n 0, 1) := by decide +kernel
theorem dX6_count_50 : decode cX6_count 50 = .ok (.getfield 170, 3) := by decide +kernel
theorem dX6_count_53 : decode cX6_count 53 = .ok (.ireturn, 1) := by decide +kernel
theorem dX6_count_54 : decode cX6_count 54 = .ok (.aload_n 0, 1) := by decide +kernel
theorem dX6_count_55 : decode cX6_count 55 = .ok (.getfield 157, 3) := by decide +kernel
theorem dX6_count_58 : decode cX6_count 58 = .ok (.ireturn, 1) := by decide +kernel
theorem dX6_count_59 : decode cX6_count 59 = .ok (.aload_n 0, 1) := by decide +kernel
theorem dX6_count_60 : decode cX6_count 60 = .ok (.getfield 23, 3) := by decide +kernel
theorem dX6_count_63 : decode cX6_count 63 = .ok (.invokevirtual 90, 3) := by decide +kernel
theorem dX6_count_66 : decode cX6_count 66 = .ok (.ireturn, 1) := by decide +kernel
theorem dX6_count_67 : decode cX6_count 67 = .ok (.bipush (-102), 2) := by decide +kernel
theorem dX6_count_69 : decode cX6_count 69 = .ok (.ireturn, 1) := by decide +kernel
set_option maxRecDepth 20000 in
theorem ggX6_digest_X6_mixed : GoodIn wsX6_digest wsX6_mixed := goodIn_r _ [10, 11] (by decide +kernel) (by decide +kernel)
set_option maxRecDepth 20000 in
theorem gX6_digest_X6_mixed : GoodIn wsX6_digest (va_wsS RX6 175 yX6_mixed wsX6_mixed) := goodIn_app (goodIn_of _ (by decide +kernel)) ggX6_digest_X6_mixed
set_option maxRecDepth 20000 in
theorem ggX6_digest_X3_size : GoodIn wsX6_digest wsX3_size := goodIn_r _ [16, 17, 50, 51, 52] (by decide +kernel) (by decide +kernel)
set_option maxRecDepth 20000 in
theorem gX6_digest_X3_size : GoodIn wsX6_digest (wsV RX6 119 RX3 yX3_size wsX3_size) := goodIn_app (goodIn_of _ (by decide +kernel)) ggX6_digest_X3_size
set_option maxRecDepth 20000 in
theorem ggX6_digest_X3_at : GoodIn wsX6_digest wsX3_at := goodIn_r _ [21, 17, 22, 50, 51, 52] (by decide +kernel) (by decide +kernel)
set_option maxRecDepth 20000 in
theorem gX6_digest_X3_at : GoodIn wsX6_digest (wsV RX6 80 RX3 yX3_at wsX3_at) := goodIn_app (goodIn_of _ (by decide +kernel)) ggX6_digest_X3_at
set_option maxRecDepth 20000 in
theorem ggX6_digest_X2_size : GoodIn wsX6_digest wsX2_size := goodIn_r _ [27, 28, 53, 54, 55, 56, 57] (by decide +kernel) (by decide +kernel)
set_option maxRecDepth 20000 in
theorem gX6_digest_X2_size : GoodIn wsX6_digest (wsV RX6 90 RX2 yX2_size wsX2_size) := goodIn_app (goodIn_of _ (by decide +kernel)) ggX6_digest_X2_size
set_option maxRecDepth 20000 in
theorem ggX6_digest_X2_at : GoodIn wsX6_digest wsX2_at := goodIn_r _ [32, 28, 33, 53, 54, 55, 56, 57] (by decide +kernel) (by decide +kernel)
set_option maxRecDepth 20000 in
theorem gX6_digest_X2_at : GoodIn wsX6_digest (wsV RX6 94 RX2 yX2_at wsX2_at) := goodIn_app (goodIn_of _ (by decide +kernel)) ggX6_digest_X2_at
set_option maxRecDepth 20000 in
theorem ggX6_digest_X2_isDone : GoodIn wsX6_digest wsX2_isDone := goodIn_r _ [37, 28, 38, 39, 53, 54, 55, 56, 57, 58, 59] (by decide +kernel) (by decide +kernel)
set_option maxRecDepth 20000 in
theorem gX6_digest_X2_isDone : GoodIn wsX6_digest (wsV RX6 106 RX2 yX2_isDone wsX2_isDone) := goodIn_app (goodIn_of _ (by decide +kernel)) ggX6_digest_X2_isDone
set_option maxRecDepth 20000 in
theorem ggX6_digest_X6_asInt : GoodIn wsX6_digest wsX6_asInt := goodIn_r _ [42] (by decide +kernel) (by decide +kernel)
set_option maxRecDepth 20000 in
theorem gX6_digest_X6_asInt : GoodIn wsX6_digest (va_wsS RX6 45 yX6_asInt wsX6_asInt) := goodIn_app (goodIn_of _ (by decide +kernel)) ggX6_digest_X6_asInt
theorem dX6_digest_0 : decode cX6_digest 0 = .ok (.ldc2_w 173, 3) := by decide +kernel
theorem dX6_digest_3 : decode cX6_digest 3 = .ok (.lstore_n 1, 1) := by decide +kernel
theorem dX6_digest_4 : decode cX6_digest 4 = .ok (.iconst 2, 1) := by decide +kernel
theorem dX6_digest_5 : decode cX6_digest 5 = .ok (.istore_n 3, 1) := by decide +kernel
theorem dX6_digest_6 : decode cX6_digest 6 = .ok (.iload_n 3, 1) := by decide +kernel
theorem dX6_digest_7 : decode cX6_digest 7 = .ok (.aload_n 0, 1) := by decide +kernel
theorem dX6_digest_8 : decode cX6_digest 8 = .ok (.getfield 9, 3) := by decide +kernel
theorem dX6_digest_11 : decode cX6_digest 11 = .ok (.arraylength, 1) := by decide +kernel
theorem dX6_digest_12 : decode cX6_digest 12 = .ok (.if_icmp .ge 25, 3) := by decide +kernel
theorem dX6_digest_15 : decode cX6_digest 15 = .ok (.aload_n 0, 1) := by decide +kernel
theorem dX6_digest_16 : decode cX6_digest 16 = .ok (.getfield 9, 3) := by decide +kernel
theorem dX6_digest_19 : decode cX6_digest 19 = .ok (.iload_n 3, 1) := by decide +kernel
theorem dX6_digest_20 : decode cX6_digest 20 = .ok (.baload, 1) := by decide +kernel
theorem dX6_digest_21 : decode cX6_digest 21 = .ok (.ifCond .eq 10, 3) := by decide +kernel
theorem dX6_digest_24 : decode cX6_digest 24 = .ok (.lload_n 1, 1) := by decide +kernel
theorem dX6_digest_25 : decode cX6_digest 25 = .ok (.iload_n 3, 1) := by decide +kernel
theorem dX6_digest_26 : decode cX6_digest 26 = .ok (.i2l, 1) := by decide +kernel
theorem dX6_digest_27 : decode cX6_digest 27 = .ok (.invokestatic 175, 3) := by decide +kernel
theorem dX6_digest_30 : decode cX6_digest 30 = .ok (.lstore_n 1, 1) := by decide +kernel
theorem dX6_digest_31 : decode cX6_digest 31 = .ok (.iinc 3 1, 3) := by decide +kernel
theorem dX6_digest_34 : decode cX6_digest 34 = .ok (.goto (-28), 3) := by decide +kernel
theorem dX6_digest_37 : decode cX6_digest 37 = .ok (.iconst 0, 1) := by decide +kernel
theorem dX6_digest_38 : decode cX6_digest 38 = .ok (.istore_n 3, 1) := by decide +kernel
theorem dX6_digest_39 : decode cX6_digest 39 = .ok (.iload_n 3, 1) := by decide +kernel
theorem dX6_digest_40 : decode cX6_digest 40 = .ok (.aload_n 0, 1) := by decide +kernel
theorem dX6_digest_41 : decode cX6_digest 41 = .ok (.getfield 30, 3) := by decide +kernel
theorem dX6_digest_44 : decode cX6_digest 44 = .ok (.invokevirtual 119, 3) := by decide +kernel
theorem dX6_digest_47 : decode cX6_digest 47 = .ok (.if_icmp .ge 23, 3) := by decide +kernel
theorem dX6_digest_50 : decode cX6_digest 50 = .ok (.lload_n 1, 1) := by decide +kernel
theorem dX6_digest_51 : decode cX6_digest 51 = .ok (.aload_n 0, 1) := by decide +kernel
theorem dX6_digest_52 : decode cX6_digest 52 = .ok (.getfield 30, 3) := by decide +kernel
theorem dX6_digest_55 : decode cX6_digest 55 = .ok (.iload_n 3, 1) := by decide +kernel
theorem dX6_digest_56 : decode cX6_digest 56 = .ok (.invokevirtual 80, 3) := by decide +kernel
theorem dX6_digest_59 : decode cX6_digest 59 = .ok (.i2l, 1) := by decide +kernel
theorem dX6_digest_60 : decode cX6_digest 60 = .ok (.invokestatic 175, 3) := by decide +kernel
theorem dX6_digest_63 : decode cX6_digest 63 = .ok (.lstore_n 1, 1) := by decide +kernel
theorem dX6_digest_64 : decode cX6_digest 64 = .ok (.iinc 3 1, 3) := by decide +kernel
theorem dX6_digest_67 : decode cX6_digest 67 = .ok (.goto (-28), 3) := by decide +kernel
theorem dX6_digest_70 : decode cX6_digest 70 = .ok (.iconst 0, 1) := by decide +kernel
theorem dX6_digest_71 : decode cX6_digest 71 = .ok (.istore_n 3, 1) := by decide +kernel
theorem dX6_digest_72 : decode cX6_digest 72 = .ok (.iload_n 3, 1) := by decide +kernel
theorem dX6_digest_73 : decode cX6_digest 73 = .ok (.aload_n 0, 1) := by decide +kernel
theorem dX6_digest_74 : decode cX6_digest 74 = .ok (.getfield 23, 3) := by decide +kernel
theorem dX6_digest_77 : decode cX6_digest 77 = .ok (.invokevirtual 90, 3) := by decide +kernel
theorem dX6_digest_80 : decode cX6_digest 80 = .ok (.if_icmp .ge 23, 3) := by decide +kernel
theorem dX6_digest_83 : decode cX6_digest 83 = .ok (.lload_n 1, 1) := by decide +kernel
theorem dX6_digest_84 : decode cX6_digest 84 = .ok (.aload_n 0, 1) := by decide +kernel
theorem dX6_digest_85 : decode cX6_digest 85 = .ok (.getfield 23, 3) := by decide +kernel
theorem dX6_digest_88 : decode cX6_digest 88 = .ok (.iload_n 3, 1) := by decide +kernel
theorem dX6_digest_89 : decode cX6_digest 89 = .ok (.invokevirtual 94, 3) := by decide +kernel
theorem dX6_digest_92 : decode cX6_digest 92 = .ok (.i2l, 1) := by decide +kernel
theorem dX6_digest_93 : decode cX6_digest 93 = .ok (.invokestatic 175, 3) := by decide +kernel
theorem dX6_digest_96 : decode cX6_digest 96 = .ok (.lstore_n 1, 1) := by decide +kernel
theorem dX6_digest_97 : decode cX6_digest 97 = .ok (.iinc 3 1, 3) := by decide +kernel
theorem dX6_digest_100 : decode cX6_digest 100 = .ok (.goto (-28), 3) := by decide +kernel
theorem dX6_digest_103 : decode cX6_digest 103 = .ok (.lload_n 1, 1) := by decide +kernel
theorem dX6_digest_104 : decode cX6_digest 104 = .ok (.aload_n 0, 1) := by decide +kernel
theorem dX6_digest_105 : decode cX6_digest 105 = .ok (.getfield 23, 3) := by decide +kernel
theorem dX6_digest_108 : decode cX6_digest 108 = .ok (.invokevirtual 106, 3) := by decide +kernel
theorem dX6_digest_111 : decode cX6_digest 111 = .ok (.invokestatic 45, 3) := by decide +kernel
theorem dX6_digest_114 : decode cX6_digest 114 = .ok (.i2l, 1) := by decide +kernel
theorem dX6_digest_115 : decode cX6_digest 115 = .ok (.invokestatic 175, 3) := by decide +kernel
theorem dX6_digest_118 : decode cX6_digest 118 = .ok (.lstore_n 1, 1) := by decide +kernel
theorem dX6_digest_119 : decode cX6_digest 119 = .ok (.lload_n 1, 1) := by decide +kernel
theorem dX6_digest_120 : decode cX6_digest 120 = .ok (.aload_n 0, 1) := by decide +kernel
theorem dX6_digest_121 : decode cX6_digest 121 = .ok (.getfield 170, 3) := by decide +kernel
theorem dX6_digest_124 : decode cX6_digest 124 = .ok (.i2l, 1) := by decide +kernel
theorem dX6_digest_125 : decode cX6_digest 125 = .ok (.invokestatic 175, 3) := by decide +kernel
theorem dX6_digest_128 : decode cX6_digest 128 = .ok (.lstore_n 1, 1) := by decide +kernel
theorem dX6_digest_129 : decode cX6_digest 129 = .ok (.lload_n 1, 1) := by decide +kernel
theorem dX6_digest_130 : decode cX6_digest 130 = .ok (.aload_n 0, 1) := by decide +kernel
theorem dX6_digest_131 : decode cX6_digest 131 = .ok (.getfield 157, 3) := by decide +kernel
theorem dX6_digest_134 : decode cX6_digest 134 = .ok (.i2l, 1) := by decide +kernel
theorem dX6_digest_135 : decode cX6_digest 135 = .ok (.invokestatic 175, 3) := by decide +kernel
theorem dX6_digest_138 : decode cX6_digest 138 = .ok (.lreturn, 1) := by decide +kernel
theorem dX6_asInt_0 : decode cX6_asInt 0 = .ok (.iload_n 0, 1) := by decide +kernel
theorem dX6_asInt_1 : decode cX6_asInt 1 = .ok (.ifCond .eq 7, 3) := by decide +kernel
theorem dX6_asInt_4 : decode cX6_asInt 4 = .ok (.iconst 1, 1) := by decide +kernel
theorem dX6_asInt_5 : decode cX6_asInt 5 = .ok (.goto 4, 3) := by decide +kernel
theorem dX6_asInt_8 : decode cX6_asInt 8 = .ok (.iconst 0, 1) := by decide +kernel
theorem dX6_asInt_9 : decode cX6_asInt 9 = .ok (.ireturn, 1) := by decide +kernel
theorem dX6_mixed_0 : decode cX6_mixed 0 = .ok (.ldc2_w 179, 3) := by decide +kernel
theorem dX6_mixed_3 : decode cX6_mixed 3 = .ok (.lload_n 0, 1) := by decide +kernel
theorem dX6_mixed_4 : decode cX6_mixed 4 = .ok (.lmul, 1) := by decide +kernel
theorem dX6_mixed_5 : decode cX6_mixed 5 = .ok (.lload_n 2, 1) := by decide +kernel
theorem dX6_mixed_6 : decode cX6_mixed 6 = .ok (.ladd, 1) := by decide +kernel
theorem dX6_mixed_7 : decode cX6_mixed 7 = .ok (.lreturn, 1) := by decide +kernel
theorem dX6_isFraction_0 : decode cX6_isFraction 0 = .ok (.iload_n 0, 1) := by decide +kernel
theorem dX6_isFraction_1 : decode cX6_isFraction 1 = .ok (.iconst 1, 1) := by decide +kernel
theorem dX6_isFraction_2 : decode cX6_isFraction 2 = .ok (.if_icmp .lt 26, 3) := by decide +kernel
theorem dX6_isFraction_5 : decode cX6_isFraction 5 = .ok (.iload_n 0, 1) := by decide +kernel
theorem dX6_isFraction_6 : decode cX6_isFraction 6 = .ok (.sipush 1000, 3) := by decide +kernel
theorem dX6_isFraction_9 : decode cX6_isFraction 9 = .ok (.if_icmp .gt 19, 3) := by decide +kernel
theorem dX6_isFraction_12 : decode cX6_isFraction 12 = .ok (.iload_n 1, 1) := by decide +kernel
theorem dX6_isFraction_13 : decode cX6_isFraction 13 = .ok (.iconst 1, 1) := by decide +kernel
theorem dX6_isFraction_14 : decode cX6_isFraction 14 = .ok (.if_icmp .lt 14, 3) := by decide +kernel
theorem dX6_isFraction_17 : decode cX6_isFraction 17 = .ok (.iload_n 1, 1) := by decide +kernel
theorem dX6_isFraction_18 : decode cX6_isFraction 18 = .ok (.sipush 1000, 3) := by decide +kernel
theorem dX6_isFraction_21 : decode cX6_isFraction 21 = .ok (.if_icmp .gt 7, 3) := by decide +kernel
theorem dX6_isFraction_24 : decode cX6_isFraction 24 = .ok (.iconst 1, 1) := by decide +kernel
theorem dX6_isFraction_25 : decode cX6_isFraction 25 = .ok (.goto 4, 3) := by decide +kernel
theorem dX6_isFraction_28 : decode cX6_isFraction 28 = .ok (.iconst 0, 1) := by decide +kernel
theorem dX6_isFraction_29 : decode cX6_isFraction 29 = .ok (.ireturn, 1) := by decide +kernel
theorem dX6_isRowNumber_0 : decode cX6_isRowNumber 0 = .ok (.iload_n 0, 1) := by decide +kernel
theorem dX6_isRowNumber_1 : decode cX6_isRowNumber 1 = .ok (.iconst 2, 1) := by decide +kernel
theorem dX6_isRowNumber_2 : decode cX6_isRowNumber 2 = .ok (.if_icmp .lt 13, 3) := by decide +kernel
theorem dX6_isRowNumber_5 : decode cX6_isRowNumber 5 = .ok (.iload_n 0, 1) := by decide +kernel
theorem dX6_isRowNumber_6 : decode cX6_isRowNumber 6 = .ok (.bipush 120, 2) := by decide +kernel
theorem dX6_isRowNumber_8 : decode cX6_isRowNumber 8 = .ok (.if_icmp .gt 7, 3) := by decide +kernel
theorem dX6_isRowNumber_11 : decode cX6_isRowNumber 11 = .ok (.iconst 1, 1) := by decide +kernel
theorem dX6_isRowNumber_12 : decode cX6_isRowNumber 12 = .ok (.goto 4, 3) := by decide +kernel
theorem dX6_isRowNumber_15 : decode cX6_isRowNumber 15 = .ok (.iconst 0, 1) := by decide +kernel
theorem dX6_isRowNumber_16 : decode cX6_isRowNumber 16 = .ok (.ireturn, 1) := by decide +kernel
theorem dX6_isSort_0 : decode cX6_isSort 0 = .ok (.iload_n 0, 1) := by decide +kernel
theorem dX6_isSort_1 : decode cX6_isSort 1 = .ok (.ifCond .lt 12, 3) := by decide +kernel
theorem dX6_isSort_4 : decode cX6_isSort 4 = .ok (.iload_n 0, 1) := by decide +kernel
theorem dX6_isSort_5 : decode cX6_isSort 5 = .ok (.iconst 5, 1) := by decide +kernel
theorem dX6_isSort_6 : decode cX6_isSort 6 = .ok (.if_icmp .gt 7, 3) := by decide +kernel
theorem dX6_isSort_9 : decode cX6_isSort 9 = .ok (.iconst 1, 1) := by decide +kernel
theorem dX6_isSort_10 : decode cX6_isSort 10 = .ok (.goto 4, 3) := by decide +kernel
theorem dX6_isSort_13 : decode cX6_isSort 13 = .ok (.iconst 0, 1) := by decide +kernel
theorem dX6_isSort_14 : decode cX6_isSort 14 = .ok (.ireturn, 1) := by decide +kernel
set_option maxRecDepth 20000 in
theorem ggX6_barredNumbers_X6_asInt : GoodIn wsX6_barredNumbers wsX6_asInt := goodIn_r _ [5] (by decide +kernel) (by decide +kernel)
set_option maxRecDepth 20000 in
theorem gX6_barredNumbers_X6_asInt : GoodIn wsX6_barredNumbers (va_wsS RX6 45 yX6_asInt wsX6_asInt) := goodIn_app (goodIn_of _ (by decide +kernel)) ggX6_barredNumbers_X6_asInt
theorem dX6_barredNumbers_0 : decode cX6_barredNumbers 0 = .ok (.iconst 0, 1) := by decide +kernel
theorem dX6_barredNumbers_1 : decode cX6_barredNumbers 1 = .ok (.istore_n 1, 1) := by decide +kernel
theorem dX6_barredNumbers_2 : decode cX6_barredNumbers 2 = .ok (.iconst 2, 1) := by decide +kernel
theorem dX6_barredNumbers_3 : decode cX6_barredNumbers 3 = .ok (.istore_n 2, 1) := by decide +kernel
theorem dX6_barredNumbers_4 : decode cX6_barredNumbers 4 = .ok (.iload_n 2, 1) := by decide +kernel
theorem dX6_barredNumbers_5 : decode cX6_barredNumbers 5 = .ok (.aload_n 0, 1) := by decide +kernel
theorem dX6_barredNumbers_6 : decode cX6_barredNumbers 6 = .ok (.getfield 9, 3) := by decide +kernel
theorem dX6_barredNumbers_9 : decode cX6_barredNumbers 9 = .ok (.arraylength, 1) := by decide +kernel
theorem dX6_barredNumbers_10 : decode cX6_barredNumbers 10 = .ok (.if_icmp .ge 21, 3) := by decide +kernel
theorem dX6_barredNumbers_13 : decode cX6_barredNumbers 13 = .ok (.iload_n 1, 1) := by decide +kernel
theorem dX6_barredNumbers_14 : decode cX6_barredNumbers 14 = .ok (.aload_n 0, 1) := by decide +kernel
theorem dX6_barredNumbers_15 : decode cX6_barredNumbers 15 = .ok (.getfield 9, 3) := by decide +kernel
theorem dX6_barredNumbers_18 : decode cX6_barredNumbers 18 = .ok (.iload_n 2, 1) := by decide +kernel
theorem dX6_barredNumbers_19 : decode cX6_barredNumbers 19 = .ok (.baload, 1) := by decide +kernel
theorem dX6_barredNumbers_20 : decode cX6_barredNumbers 20 = .ok (.invokestatic 45, 3) := by decide +kernel
theorem dX6_barredNumbers_23 : decode cX6_barredNumbers 23 = .ok (.iadd, 1) := by decide +kernel
theorem dX6_barredNumbers_24 : decode cX6_barredNumbers 24 = .ok (.istore_n 1, 1) := by decide +kernel
theorem dX6_barredNumbers_25 : decode cX6_barredNumbers 25 = .ok (.iinc 2 1, 3) := by decide +kernel
theorem dX6_barredNumbers_28 : decode cX6_barredNumbers 28 = .ok (.goto (-24), 3) := by decide +kernel
theorem dX6_barredNumbers_31 : decode cX6_barredNumbers 31 = .ok (.iload_n 1, 1) := by decide +kernel
theorem dX6_barredNumbers_32 : decode cX6_barredNumbers 32 = .ok (.ireturn, 1) := by decide +kernel
set_option maxRecDepth 20000 in
theorem ggX6_rowRefusal_X6_isFraction : GoodIn wsX6_rowRefusal wsX6_isFraction := goodIn_r _ [5] (by decide +kernel) (by decide +kernel)
set_option maxRecDepth 20000 in
theorem gX6_rowRefusal_X6_isFraction : GoodIn wsX6_rowRefusal (va_wsS RX6 83 yX6_isFraction wsX6_isFraction) := goodIn_app (goodIn_of _ (by decide +kernel)) ggX6_rowRefusal_X6_isFraction
set_option maxRecDepth 20000 in
theorem ggX6_rowRefusal_X6_isSort : GoodIn wsX6_rowRefusal wsX6_isSort := goodIn_r _ [8] (by decide +kernel) (by decide +kernel)
set_option maxRecDepth 20000 in
theorem gX6_rowRefusal_X6_isSort : GoodIn wsX6_rowRefusal (va_wsS RX6 49 yX6_isSort wsX6_isSort) := goodIn_app (goodIn_of _ (by decide +kernel)) ggX6_rowRefusal_X6_isSort
set_option maxRecDepth 20000 in
theorem ggX6_rowRefusal_X6_isRowNumber : GoodIn wsX6_rowRefusal wsX6_isRowNumber := goodIn_r _ [11] (by decide +kernel) (by decide +kernel)
set_option maxRecDepth 20000 in
theorem gX6_rowRefusal_X6_isRowNumber : GoodIn wsX6_rowRefusal (va_wsS RX6 41 yX6_isRowNumber wsX6_isRowNumber) := goodIn_app (goodIn_of _ (by decide +kernel)) ggX6_rowRefusal_X6_isRowNumber
theorem dX6_rowRefusal_0 : decode cX6_rowRefusal 0 = .ok (.iload_n 1, 1) := by decide +kernel
theorem dX6_rowRefusal_1 : decode cX6_rowRefusal 1 = .ok (.iload_n 2, 1) := by decide +kernel
theorem dX6_rowRefusal_2 : decode cX6_rowRefusal 2 = .ok (.invokestatic 83, 3) := by decide +kernel
theorem dX6_rowRefusal_5 : decode cX6_rowRefusal 5 = .ok (.ifCond .eq 19, 3) := by decide +kernel
theorem dX6_rowRefusal_8 : decode cX6_rowRefusal 8 = .ok (.iload 4, 2) := by decide +kernel
theorem dX6_rowRefusal_10 : decode cX6_rowRefusal 10 = .ok (.invokestatic 49, 3) := by decide +kernel
theorem dX6_rowRefusal_13 : decode cX6_rowRefusal 13 = .ok (.ifCond .eq 11, 3) := by decide +kernel
theorem dX6_rowRefusal_16 : decode cX6_rowRefusal 16 = .ok (.iload 5, 2) := by decide +kernel
theorem dX6_rowRefusal_18 : decode cX6_rowRefusal 18 = .ok (.invokestatic 41, 3) := by decide +kernel
theorem dX6_rowRefusal_21 : decode cX6_rowRefusal 21 = .ok (.ifCond .ne 6, 3) := by decide +kernel
theorem dX6_rowRefusal_24 : decode cX6_rowRefusal 24 = .ok (.bipush (-102), 2) := by decide +kernel
theorem dX6_rowRefusal_26 : decode cX6_rowRefusal 26 = .ok (.ireturn, 1) := by decide +kernel
theorem dX6_rowRefusal_27 : decode cX6_rowRefusal 27 = .ok (.iload_n 3, 1) := by decide +kernel
theorem dX6_rowRefusal_28 : decode cX6_rowRefusal 28 = .ok (.iconst 1, 1) := by decide +kernel
theorem dX6_rowRefusal_29 : decode cX6_rowRefusal 29 = .ok (.if_icmp .lt 8, 3) := by decide +kernel
theorem dX6_rowRefusal_32 : decode cX6_rowRefusal 32 = .ok (.iload_n 3, 1) := by decide +kernel
theorem dX6_rowRefusal_33 : decode cX6_rowRefusal 33 = .ok (.iconst 5, 1) := by decide +kernel
theorem dX6_rowRefusal_34 : decode cX6_rowRefusal 34 = .ok (.if_icmp .le 6, 3) := by decide +kernel
theorem dX6_rowRefusal_37 : decode cX6_rowRefusal 37 = .ok (.bipush (-102), 2) := by decide +kernel
theorem dX6_rowRefusal_39 : decode cX6_rowRefusal 39 = .ok (.ireturn, 1) := by decide +kernel
theorem dX6_rowRefusal_40 : decode cX6_rowRefusal 40 = .ok (.aload_n 0, 1) := by decide +kernel
theorem dX6_rowRefusal_41 : decode cX6_rowRefusal 41 = .ok (.getfield 170, 3) := by decide +kernel
theorem dX6_rowRefusal_44 : decode cX6_rowRefusal 44 = .ok (.bipush 60, 2) := by decide +kernel
theorem dX6_rowRefusal_46 : decode cX6_rowRefusal 46 = .ok (.if_icmp .lt 8, 3) := by decide +kernel
theorem dX6_rowRefusal_49 : decode cX6_rowRefusal 49 = .ok (.bipush (-104), 2) := by decide +kernel
theorem dX6_rowRefusal_51 : decode cX6_rowRefusal 51 = .ok (.goto 4, 3) := by decide +kernel
theorem dX6_rowRefusal_54 : decode cX6_rowRefusal 54 = .ok (.iconst 0, 1) := by decide +kernel
theorem dX6_rowRefusal_55 : decode cX6_rowRefusal 55 = .ok (.ireturn, 1) := by decide +kernel
set_option maxRecDepth 20000 in
theorem ggX6_tripleRefusal_X6_isFraction : GoodIn wsX6_tripleRefusal wsX6_isFraction := goodIn_r _ [5] (by decide +kernel) (by decide +kernel)
set_option maxRecDepth 20000 in
theorem gX6_tripleRefusal_X6_isFraction : GoodIn wsX6_tripleRefusal (va_wsS RX6 83 yX6_isFraction wsX6_isFraction) := goodIn_app (goodIn_of _ (by decide +kernel)) ggX6_tripleRefusal_X6_isFraction
theorem dX6_tripleRefusal_0 : decode cX6_tripleRefusal 0 = .ok (.iload_n 1, 1) := by decide +kernel
theorem dX6_tripleRefusal_1 : decode cX6_tripleRefusal 1 = .ok (.iload_n 2, 1) := by decide +kernel
theorem dX6_tripleRefusal_2 : decode cX6_tripleRefusal 2 = .ok (.invokestatic 83, 3) := by decide +kernel
theorem dX6_tripleRefusal_5 : decode cX6_tripleRefusal 5 = .ok (.ifCond .eq 18, 3) := by decide +kernel
theorem dX6_tripleRefusal_8 : decode cX6_tripleRefusal 8 = .ok (.iload_n 2, 1) := by decide +kernel
theorem dX6_tripleRefusal_9 : decode cX6_tripleRefusal 9 = .ok (.bipush 40, 2) := by decide +kernel
theorem dX6_tripleRefusal_11 : decode cX6_tripleRefusal 11 = .ok (.if_icmp .gt 12, 3) := by decide +kernel
theorem dX6_tripleRefusal_14 : decode cX6_tripleRefusal 14 = .ok (.iload_n 3, 1) := by decide +kernel
theorem dX6_tripleRefusal_15 : decode cX6_tripleRefusal 15 = .ok (.ifCond .lt 8, 3) := by decide +kernel
theorem dX6_tripleRefusal_18 : decode cX6_tripleRefusal 18 = .ok (.iload_n 3, 1) := by decide +kernel
theorem dX6_tripleRefusal_19 : decode cX6_tripleRefusal 19 = .ok (.iconst 2, 1) := by decide +kernel
theorem dX6_tripleRefusal_20 : decode cX6_tripleRefusal 20 = .ok (.if_icmp .le 6, 3) := by decide +kernel
theorem dX6_tripleRefusal_23 : decode cX6_tripleRefusal 23 = .ok (.bipush (-102), 2) := by decide +kernel
theorem dX6_tripleRefusal_25 : decode cX6_tripleRefusal 25 = .ok (.ireturn, 1) := by decide +kernel
theorem dX6_tripleRefusal_26 : decode cX6_tripleRefusal 26 = .ok (.aload_n 0, 1) := by decide +kernel
theorem dX6_tripleRefusal_27 : decode cX6_tripleRefusal 27 = .ok (.getfield 157, 3) := by decide +kernel
theorem dX6_tripleRefusal_30 : decode cX6_tripleRefusal 30 = .ok (.bipush 40, 2) := by decide +kernel
theorem dX6_tripleRefusal_32 : decode cX6_tripleRefusal 32 = .ok (.if_icmp .lt 8, 3) := by decide +kernel
theorem dX6_tripleRefusal_35 : decode cX6_tripleRefusal 35 = .ok (.bipush (-104), 2) := by decide +kernel
theorem dX6_tripleRefusal_37 : decode cX6_tripleRefusal 37 = .ok (.goto 4, 3) := by decide +kernel
theorem dX6_tripleRefusal_40 : decode cX6_tripleRefusal 40 = .ok (.iconst 0, 1) := by decide +kernel
theorem dX6_tripleRefusal_41 : decode cX6_tripleRefusal 41 = .ok (.ireturn, 1) := by decide +kernel
set_option maxRecDepth 20000 in
theorem ggX6_beginRows_X4_prepare : GoodIn wsX6_beginRows wsX4_prepare := goodIn_r _ [8, 9, 10, 11, 12, 13, 14, 15, 16, 17, 18, 19, 20, 21, 22, 23, 24, 25, 26, 27, 28, 29, 30, 31, 32, 33, 34, 35, 36, 37, 7, 38, 39, 40, 41, 42, 43, 44, 45, 46, 47, 55, 56, 57, 58, 59, 60, 61, 62, 63, 64, 65, 66, 67, 68, 69, 70] (by decide +kernel) (by decide +kernel)
set_option maxRecDepth 20000 in
theorem gX6_beginRows_X4_prepare : GoodIn wsX6_beginRows (wsV RX6 181 RX4 yX4_prepare wsX4_prepare) := goodIn_app (goodIn_of _ (by decide +kernel)) ggX6_beginRows_X4_prepare
theorem dX6_beginRows_0 : decode cX6_beginRows 0 = .ok (.aload_n 0, 1) := by decide +kernel
theorem dX6_beginRows_1 : decode cX6_beginRows 1 = .ok (.dup, 1) := by decide +kernel
theorem dX6_beginRows_2 : decode cX6_beginRows 2 = .ok (.getfield 170, 3) := by decide +kernel
theorem dX6_beginRows_5 : decode cX6_beginRows 5 = .ok (.iconst 1, 1) := by decide +kernel
theorem dX6_beginRows_6 : decode cX6_beginRows 6 = .ok (.iadd, 1) := by decide +kernel
theorem dX6_beginRows_7 : decode cX6_beginRows 7 = .ok (.putfield 170, 3) := by decide +kernel
theorem dX6_beginRows_10 : decode cX6_beginRows 10 = .ok (.aload_n 0, 1) := by decide +kernel
theorem dX6_beginRows_11 : decode cX6_beginRows 11 = .ok (.getfield 16, 3) := by decide +kernel
theorem dX6_beginRows_14 : decode cX6_beginRows 14 = .ok (.iload_n 1, 1) := by decide +kernel
theorem dX6_beginRows_15 : decode cX6_beginRows 15 = .ok (.iload_n 2, 1) := by decide +kernel
theorem dX6_beginRows_16 : decode cX6_beginRows 16 = .ok (.iload_n 3, 1) := by decide +kernel
theorem dX6_beginRows_17 : decode cX6_beginRows 17 = .ok (.iload 4, 2) := by decide +kernel
theorem dX6_beginRows_19 : decode cX6_beginRows 19 = .ok (.aload_n 0, 1) := by decide +kernel
theorem dX6_beginRows_20 : decode cX6_beginRows 20 = .ok (.getfield 9, 3) := by decide +kernel
theorem dX6_beginRows_23 : decode cX6_beginRows 23 = .ok (.invokevirtual 181, 3) := by decide +kernel
theorem dX6_beginRows_26 : decode cX6_beginRows 26 = .ok (.return_, 1) := by decide +kernel
set_option maxRecDepth 20000 in
theorem ggX6_holdFoundRow_X3_empty : GoodIn wsX6_holdFoundRow wsX3_empty := goodIn_r _ [7, 8, 31, 32, 33] (by decide +kernel) (by decide +kernel)
set_option maxRecDepth 20000 in
theorem gX6_holdFoundRow_X3_empty : GoodIn wsX6_holdFoundRow (wsV RX6 123 RX3 yX3_empty wsX3_empty) := goodIn_app (goodIn_of _ (by decide +kernel)) ggX6_holdFoundRow_X3_empty
set_option maxRecDepth 20000 in
theorem ggX6_holdFoundRow_X4_foundAt : GoodIn wsX6_holdFoundRow wsX4_foundAt := goodIn_r _ [13, 14, 34, 35, 36, 37, 38, 39, 40, 41, 42, 43, 44, 45, 46, 47] (by decide +kernel) (by decide +kernel)
set_option maxRecDepth 20000 in
theorem gX6_holdFoundRow_X4_foundAt : GoodIn wsX6_holdFoundRow (wsV RX6 185 RX4 yX4_foundAt wsX4_foundAt) := goodIn_app (goodIn_of _ (by decide +kernel)) ggX6_holdFoundRow_X4_foundAt
set_option maxRecDepth 20000 in
theorem ggX6_holdFoundRow_X3_insert : GoodIn wsX6_holdFoundRow wsX3_insert := goodIn_r _ [18, 8, 19, 20, 21, 22, 6, 23, 31, 32, 33] (by decide +kernel) (by decide +kernel)
set_option maxRecDepth 20000 in
theorem gX6_holdFoundRow_X3_insert : GoodIn wsX6_holdFoundRow (wsV RX6 116 RX3 yX3_insert wsX3_insert) := goodIn_app (goodIn_of _ (by decide +kernel)) ggX6_holdFoundRow_X3_insert
theorem dX6_holdFoundRow_0 : decode cX6_holdFoundRow 0 = .ok (.aload_n 0, 1) := by decide +kernel
theorem dX6_holdFoundRow_1 : decode cX6_holdFoundRow 1 = .ok (.getfield 30, 3) := by decide +kernel
theorem dX6_holdFoundRow_4 : decode cX6_holdFoundRow 4 = .ok (.invokevirtual 123, 3) := by decide +kernel
theorem dX6_holdFoundRow_7 : decode cX6_holdFoundRow 7 = .ok (.iconst 0, 1) := by decide +kernel
theorem dX6_holdFoundRow_8 : decode cX6_holdFoundRow 8 = .ok (.istore_n 2, 1) := by decide +kernel
theorem dX6_holdFoundRow_9 : decode cX6_holdFoundRow 9 = .ok (.iload_n 2, 1) := by decide +kernel
theorem dX6_holdFoundRow_10 : decode cX6_holdFoundRow 10 = .ok (.iload_n 1, 1) := by decide +kernel
theorem dX6_holdFoundRow_11 : decode cX6_holdFoundRow 11 = .ok (.if_icmp .ge 24, 3) := by decide +kernel
theorem dX6_holdFoundRow_14 : decode cX6_holdFoundRow 14 = .ok (.aload_n 0, 1) := by decide +kernel
theorem dX6_holdFoundRow_15 : decode cX6_holdFoundRow 15 = .ok (.getfield 30, 3) := by decide +kernel
theorem dX6_holdFoundRow_18 : decode cX6_holdFoundRow 18 = .ok (.aload_n 0, 1) := by decide +kernel
theorem dX6_holdFoundRow_19 : decode cX6_holdFoundRow 19 = .ok (.getfield 16, 3) := by decide +kernel
theorem dX6_holdFoundRow_22 : decode cX6_holdFoundRow 22 = .ok (.iload_n 2, 1) := by decide +kernel
theorem dX6_holdFoundRow_23 : decode cX6_holdFoundRow 23 = .ok (.invokevirtual 185, 3) := by decide +kernel
theorem dX6_holdFoundRow_26 : decode cX6_holdFoundRow 26 = .ok (.invokevirtual 116, 3) := by decide +kernel
theorem dX6_holdFoundRow_29 : decode cX6_holdFoundRow 29 = .ok (.iinc 2 1, 3) := by decide +kernel
theorem dX6_holdFoundRow_32 : decode cX6_holdFoundRow 32 = .ok (.goto (-23), 3) := by decide +kernel
theorem dX6_holdFoundRow_35 : decode cX6_holdFoundRow 35 = .ok (.return_, 1) := by decide +kernel
theorem dX7_init_0 : decode cX7_init 0 = .ok (.aload_n 0, 1) := by decide +kernel
theorem dX7_init_1 : decode cX7_init 1 = .ok (.invokespecial 1, 3) := by decide +kernel
theorem dX7_init_4 : decode cX7_init 4 = .ok (.aload_n 0, 1) := by decide +kernel
theorem dX7_init_5 : decode cX7_init 5 = .ok (.bipush 121, 2) := by decide +kernel
theorem dX7_init_7 : decode cX7_init 7 = .ok (.newarray .boolean, 2) := by decide +kernel
theorem dX7_init_9 : decode cX7_init 9 = .ok (.putfield 7, 3) := by decide +kernel
theorem dX7_init_12 : decode cX7_init 12 = .ok (.aload_n 0, 1) := by decide +kernel
theorem dX7_init_13 : decode cX7_init 13 = .ok (.iconst 5, 1) := by decide +kernel
theorem dX7_init_14 : decode cX7_init 14 = .ok (.newarray .int, 2) := by decide +kernel
theorem dX7_init_16 : decode cX7_init 16 = .ok (.putfield 13, 3) := by decide +kernel
theorem dX7_init_19 : decode cX7_init 19 = .ok (.aload_n 0, 1) := by decide +kernel
theorem dX7_init_20 : decode cX7_init 20 = .ok (.bipush 40, 2) := by decide +kernel
theorem dX7_init_22 : decode cX7_init 22 = .ok (.newarray .int, 2) := by decide +kernel
theorem dX7_init_24 : decode cX7_init 24 = .ok (.putfield 17, 3) := by decide +kernel
theorem dX7_init_27 : decode cX7_init 27 = .ok (.aload_n 0, 1) := by decide +kernel
theorem dX7_init_28 : decode cX7_init 28 = .ok (.bipush 41, 2) := by decide +kernel
theorem dX7_init_30 : decode cX7_init 30 = .ok (.newarray .long, 2) := by decide +kernel
theorem dX7_init_32 : decode cX7_init 32 = .ok (.putfield 20, 3) := by decide +kernel
theorem dX7_init_35 : decode cX7_init 35 = .ok (.aload_n 0, 1) := by decide +kernel
theorem dX7_init_36 : decode cX7_init 36 = .ok (.bipush 41, 2) := by decide +kernel
theorem dX7_init_38 : decode cX7_init 38 = .ok (.newarray .long, 2) := by decide +kernel
theorem dX7_init_40 : decode cX7_init 40 = .ok (.putfield 24, 3) := by decide +kernel
theorem dX7_init_43 : decode cX7_init 43 = .ok (.aload_n 0, 1) := by decide +kernel
theorem dX7_init_44 : decode cX7_init 44 = .ok (.iconst 5, 1) := by decide +kernel
theorem dX7_init_45 : decode cX7_init 45 = .ok (.newarray .int, 2) := by decide +kernel
theorem dX7_init_47 : decode cX7_init 47 = .ok (.putfield 27, 3) := by decide +kernel
theorem dX7_init_50 : decode cX7_init 50 = .ok (.aload_n 0, 1) := by decide +kernel
theorem dX7_init_51 : decode cX7_init 51 = .ok (.bipush 6, 2) := by decide +kernel
theorem dX7_init_53 : decode cX7_init 53 = .ok (.newarray .long, 2) := by decide +kernel
theorem dX7_init_55 : decode cX7_init 55 = .ok (.putfield 30, 3) := by decide +kernel
theorem dX7_init_58 : decode cX7_init 58 = .ok (.aload_n 0, 1) := by decide +kernel
theorem dX7_init_59 : decode cX7_init 59 = .ok (.bipush 6, 2) := by decide +kernel
theorem dX7_init_61 : decode cX7_init 61 = .ok (.newarray .long, 2) := by decide +kernel
theorem dX7_init_63 : decode cX7_init 63 = .ok (.putfield 33, 3) := by decide +kernel
theorem dX7_init_66 : decode cX7_init 66 = .ok (.aload_n 0, 1) := by decide +kernel
theorem dX7_init_67 : decode cX7_init 67 = .ok (.iconst 5, 1) := by decide +kernel
theorem dX7_init_68 : decode cX7_init 68 = .ok (.newarray .int, 2) := by decide +kernel
theorem dX7_init_70 : decode cX7_init 70 = .ok (.putfield 36, 3) := by decide +kernel
theorem dX7_init_73 : decode cX7_init 73 = .ok (.aload_n 0, 1) := by decide +kernel
theorem dX7_init_74 : decode cX7_init 74 = .ok (.getfield 24, 3) := by decide +kernel
theorem dX7_init_77 : decode cX7_init 77 = .ok (.iconst 0, 1) := by decide +kernel
theorem dX7_init_78 : decode cX7_init 78 = .ok (.lconst 1, 1) := by decide +kernel
theorem dX7_init_79 : decode cX7_init 79 = .ok (.lastore, 1) := by decide +kernel
theorem dX7_init_80 : decode cX7_init 80 = .ok (.return_, 1) := by decide +kernel
theorem dX7_in_0 : decode cX7_in 0 = .ok (.iload_n 0, 1) := by decide +kernel
theorem dX7_in_1 : decode cX7_in 1 = .ok (.iload_n 1, 1) := by decide +kernel
theorem dX7_in_2 : decode cX7_in 2 = .ok (.if_icmp .lt 12, 3) := by decide +kernel
theorem dX7_in_5 : decode cX7_in 5 = .ok (.iload_n 0, 1) := by decide +kernel
theorem dX7_in_6 : decode cX7_in 6 = .ok (.iload_n 2, 1) := by decide +kernel
theorem dX7_in_7 : decode cX7_in 7 = .ok (.if_icmp .gt 7, 3) := by decide +kernel
theorem dX7_in_10 : decode cX7_in 10 = .ok (.iconst 1, 1) := by decide +kernel
theorem dX7_in_11 : decode cX7_in 11 = .ok (.goto 4, 3) := by decide +kernel
theorem dX7_in_14 : decode cX7_in 14 = .ok (.iconst 0, 1) := by decide +kernel
theorem dX7_in_15 : decode cX7_in 15 = .ok (.ireturn, 1) := by decide +kernel
set_option maxRecDepth 20000 in
theorem ggX7_isFraction_X7_in : GoodIn wsX7_isFraction wsX7_in := goodIn_r _ [4] (by decide +kernel) (by decide +kernel)
set_option maxRecDepth 20000 in
theorem gX7_isFraction_X7_in : GoodIn wsX7_isFraction (va_wsS RX7 39 yX7_in wsX7_in) := goodIn_app (goodIn_of _ (by decide +kernel)) ggX7_isFraction_X7_in
theorem dX7_isFraction_0 : decode cX7_isFraction 0 = .ok (.iload_n 0, 1) := by decide +kernel
theorem dX7_isFraction_1 : decode cX7_isFraction 1 = .ok (.iconst 1, 1) := by decide +kernel
theorem dX7_isFraction_2 : decode cX7_isFraction 2 = .ok (.sipush 1000, 3) := by decide +kernel
theorem dX7_isFraction_5 : decode cX7_isFraction 5 = .ok (.invokestatic 39, 3) := by decide +kernel
theorem dX7_isFraction_8 : decode cX7_isFraction 8 = .ok (.ifCond .eq 18, 3) := by decide +kernel
theorem dX7_isFraction_11 : decode cX7_isFraction 11 = .ok (.iload_n 1, 1) := by decide +kernel
theorem dX7_isFraction_12 : decode cX7_isFraction 12 = .ok (.iconst 1, 1) := by decide +kernel
theorem dX7_isFraction_13 : decode cX7_isFraction 13 = .ok (.sipush 1000, 3) := by decide +kernel
theorem dX7_isFraction_16 : decode cX7_isFraction 16 = .ok (.invokestatic 39, 3) := by decide +kernel
theorem dX7_isFraction_19 : decode cX7_isFraction 19 = .ok (.ifCond .eq 7, 3) := by decide +kernel
theorem dX7_isFraction_22 : decode cX7_isFraction 22 = .ok (.iconst 1, 1) := by decide +kernel
theorem dX7_isFraction_23 : decode cX7_isFraction 23 = .ok (.goto 4, 3) := by decide +kernel
theorem dX7_isFraction_26 : decode cX7_isFraction 26 = .ok (.iconst 0, 1) := by decide +kernel
theorem dX7_isFraction_27 : decode cX7_isFraction 27 = .ok (.ireturn, 1) := by decide +kernel
theorem dX7_common_0 : decode cX7_common 0 = .ok (.lload_n 0, 1) := by decide +kernel
theorem dX7_common_1 : decode cX7_common 1 = .ok (.lstore 4, 2) := by decide +kernel
theorem dX7_common_3 : decode cX7_common 3 = .ok (.lload_n 2, 1) := by decide +kernel
theorem dX7_common_4 : decode cX7_common 4 = .ok (.lstore 6, 2) := by decide +kernel
theorem dX7_common_6 : decode cX7_common 6 = .ok (.lload 6, 2) := by decide +kernel
theorem dX7_common_8 : decode cX7_common 8 = .ok (.lconst 0, 1) := by decide +kernel
theorem dX7_common_9 : decode cX7_common 9 = .ok (.lcmp, 1) := by decide +kernel
theorem dX7_common_10 : decode cX7_common 10 = .ok (.ifCond .eq 21, 3) := by decide +kernel
theorem dX7_common_13 : decode cX7_common 13 = .ok (.lload 4, 2) := by decide +kernel
theorem dX7_common_15 : decode cX7_common 15 = .ok (.lload 6, 2) := by decide +kernel
theorem dX7_common_17 : decode cX7_common 17 = .ok (.lrem, 1) := by decide +kernel
theorem dX7_common_18 : decode cX7_common 18 = .ok (.lstore 8, 2) := by decide +kernel
theorem dX7_common_20 : decode cX7_common 20 = .ok (.lload 6, 2) := by decide +kernel
theorem dX7_common_22 : decode cX7_common 22 = .ok (.lstore 4, 2) := by decide +kernel
theorem dX7_common_24 : decode cX7_common 24 = .ok (.lload 8, 2) := by decide +kernel
theorem dX7_common_26 : decode cX7_common 26 = .ok (.lstore 6, 2) := by decide +kernel
theorem dX7_common_28 : decode cX7_common 28 = .ok (.goto (-22), 3) := by decide +kernel
theorem dX7_common_31 : decode cX7_common 31 = .ok (.lload 4, 2) := by decide +kernel
theorem dX7_common_33 : decode cX7_common 33 = .ok (.lreturn, 1) := by decide +kernel
set_option maxRecDepth 20000 in
theorem ggX7_bar_X7_in : GoodIn wsX7_bar wsX7_in := goodIn_r _ [5] (by decide +kernel) (by decide +kernel)
set_option maxRecDepth 20000 in
theorem gX7_bar_X7_in : GoodIn wsX7_bar (va_wsS RX7 39 yX7_in wsX7_in) := goodIn_app (goodIn_of _ (by decide +kernel)) ggX7_bar_X7_in
theorem dX7_bar_0 : decode cX7_bar 0 = .ok (.iload_n 1, 1) := by decide +kernel
theorem dX7_bar_1 : decode cX7_bar 1 = .ok (.iconst 2, 1) := by decide +kernel
theorem dX7_bar_2 : decode cX7_bar 2 = .ok (.bipush 120, 2) := by decide +kernel
theorem dX7_bar_4 : decode cX7_bar 4 = .ok (.invokestatic 39, 3) := by decide +kernel
theorem dX7_bar_7 : decode cX7_bar 7 = .ok (.ifCond .ne 6, 3) := by decide +kernel
theorem dX7_bar_10 : decode cX7_bar 10 = .ok (.bipush (-102), 2) := by decide +kernel
theorem dX7_bar_12 : decode cX7_bar 12 = .ok (.ireturn, 1) := by decide +kernel
theorem dX7_bar_13 : decode cX7_bar 13 = .ok (.aload_n 0, 1) := by decide +kernel
theorem dX7_bar_14 : decode cX7_bar 14 = .ok (.getfield 7, 3) := by decide +kernel
theorem dX7_bar_17 : decode cX7_bar 17 = .ok (.iload_n 1, 1) := by decide +kernel
theorem dX7_bar_18 : decode cX7_bar 18 = .ok (.baload, 1) := by decide +kernel
theorem dX7_bar_19 : decode cX7_bar 19 = .ok (.ifCond .eq 7, 3) := by decide +kernel
theorem dX7_bar_22 : decode cX7_bar 22 = .ok (.iconst 1, 1) := by decide +kernel
theorem dX7_bar_23 : decode cX7_bar 23 = .ok (.goto 4, 3) := by decide +kernel
theorem dX7_bar_26 : decode cX7_bar 26 = .ok (.iconst 0, 1) := by decide +kernel
theorem dX7_bar_27 : decode cX7_bar 27 = .ok (.istore_n 3, 1) := by decide +kernel
theorem dX7_bar_28 : decode cX7_bar 28 = .ok (.aload_n 0, 1) := by decide +kernel
theorem dX7_bar_29 : decode cX7_bar 29 = .ok (.getfield 7, 3) := by decide +kernel
theorem dX7_bar_32 : decode cX7_bar 32 = .ok (.iload_n 1, 1) := by decide +kernel
theorem dX7_bar_33 : decode cX7_bar 33 = .ok (.iload_n 2, 1) := by decide +kernel
theorem dX7_bar_34 : decode cX7_bar 34 = .ok (.bastore, 1) := by decide +kernel
theorem dX7_bar_35 : decode cX7_bar 35 = .ok (.iload_n 3, 1) := by decide +kernel
theorem dX7_bar_36 : decode cX7_bar 36 = .ok (.ireturn, 1) := by decide +kernel
theorem dX7_isPrime_0 : decode cX7_isPrime 0 = .ok (.iconst 2, 1) := by decide +kernel
theorem dX7_isPrime_1 : decode cX7_isPrime 1 = .ok (.istore_n 1, 1) := by decide +kernel
theorem dX7_isPrime_2 : decode cX7_isPrime 2 = .ok (.iload_n 1, 1) := by decide +kernel
theorem dX7_isPrime_3 : decode cX7_isPrime 3 = .ok (.iload_n 1, 1) := by decide +kernel
theorem dX7_isPrime_4 : decode cX7_isPrime 4 = .ok (.imul, 1) := by decide +kernel
theorem dX7_isPrime_5 : decode cX7_isPrime 5 = .ok (.iload_n 0, 1) := by decide +kernel
theorem dX7_isPrime_6 : decode cX7_isPrime 6 = .ok (.if_icmp .gt 17, 3) := by decide +kernel
theorem dX7_isPrime_9 : decode cX7_isPrime 9 = .ok (.iload_n 0, 1) := by decide +kernel
theorem dX7_isPrime_10 : decode cX7_isPrime 10 = .ok (.iload_n 1, 1) := by decide +kernel
theorem dX7_isPrime_11 : decode cX7_isPrime 11 = .ok (.irem, 1) := by decide +kernel
theorem dX7_isPrime_12 : decode cX7_isPrime 12 = .ok (.ifCond .ne 5, 3) := by decide +kernel
theorem dX7_isPrime_15 : decode cX7_isPrime 15 = .ok (.iconst 0, 1) := by decide +kernel
theorem dX7_isPrime_16 : decode cX7_isPrime 16 = .ok (.ireturn, 1) := by decide +kernel
theorem dX7_isPrime_17 : decode cX7_isPrime 17 = .ok (.iinc 1 1, 3) := by decide +kernel
theorem dX7_isPrime_20 : decode cX7_isPrime 20 = .ok (.goto (-18), 3) := by decide +kernel
theorem dX7_isPrime_23 : decode cX7_isPrime 23 = .ok (.iconst 1, 1) := by decide +kernel
theorem dX7_isPrime_24 : decode cX7_isPrime 24 = .ok (.ireturn, 1) := by decide +kernel
theorem dX7_isSquare_0 : decode cX7_isSquare 0 = .ok (.iconst 1, 1) := by decide +kernel
theorem dX7_isSquare_1 : decode cX7_isSquare 1 = .ok (.istore_n 1, 1) := by decide +kernel
theorem dX7_isSquare_2 : decode cX7_isSquare 2 = .ok (.iload_n 1, 1) := by decide +kernel
theorem dX7_isSquare_3 : decode cX7_isSquare 3 = .ok (.iload_n 1, 1) := by decide +kernel
theorem dX7_isSquare_4 : decode cX7_isSquare 4 = .ok (.imul, 1) := by decide +kernel
theorem dX7_isSquare_5 : decode cX7_isSquare 5 = .ok (.iload_n 0, 1) := by decide +kernel
theorem dX7_isSquare_6 : decode cX7_isSquare 6 = .ok (.if_icmp .ge 9, 3) := by decide +kernel
theorem dX7_isSquare_9 : decode cX7_isSquare 9 = .ok (.iinc 1 1, 3) := by decide +kernel
theorem dX7_isSquare_12 : decode cX7_isSquare 12 = .ok (.goto (-10), 3) := by decide +kernel
theorem dX7_isSquare_15 : decode cX7_isSquare 15 = .ok (.iload_n 1, 1) := by decide +kernel
theorem dX7_isSquare_16 : decode cX7_isSquare 16 = .ok (.iload_n 1, 1) := by decide +kernel
theorem dX7_isSquare_17 : decode cX7_isSquare 17 = .ok (.imul, 1) := by decide +kernel
theorem dX7_isSquare_18 : decode cX7_isSquare 18 = .ok (.iload_n 0, 1) := by decide +kernel
theorem dX7_isSquare_19 : decode cX7_isSquare 19 = .ok (.if_icmp .ne 7, 3) := by decide +kernel
theorem dX7_isSquare_22 : decode cX7_isSquare 22 = .ok (.iconst 1, 1) := by decide +kernel
theorem dX7_isSquare_23 : decode cX7_isSquare 23 = .ok (.goto 4, 3) := by decide +kernel
theorem dX7_isSquare_26 : decode cX7_isSquare 26 = .ok (.iconst 0, 1) := by decide +kernel
theorem dX7_isSquare_27 : decode cX7_isSquare 27 = .ok (.ireturn, 1) := by decide +kernel
theorem dX7_isOfTwoAndThree_0 : decode cX7_isOfTwoAndThree 0 = .ok (.iload_n 0, 1) := by decide +kernel
theorem dX7_isOfTwoAndThree_1 : decode cX7_isOfTwoAndThree 1 = .ok (.istore_n 1, 1) := by decide +kernel
theorem dX7_isOfTwoAndThree_2 : decode cX7_isOfTwoAndThree 2 = .ok (.iload_n 1, 1) := by decide +kernel
theorem dX7_isOfTwoAndThree_3 : decode cX7_isOfTwoAndThree 3 = .ok (.iconst 2, 1) := by decide +kernel
theorem dX7_isOfTwoAndThree_4 : decode cX7_isOfTwoAndThree 4 = .ok (.irem, 1) := by decide +kernel
theorem dX7_isOfTwoAndThree_5 : decode cX7_isOfTwoAndThree 5 = .ok (.ifCond .ne 10, 3) := by decide +kernel
theorem dX7_isOfTwoAndThree_8 : decode cX7_isOfTwoAndThree 8 = .ok (.iload_n 1, 1) := by decide +kernel
theorem dX7_isOfTwoAndThree_9 : decode cX7_isOfTwoAndThree 9 = .ok (.iconst 2, 1) := by decide +kernel
theorem dX7_isOfTwoAndThree_10 : decode cX7_isOfTwoAndThree 10 = .ok (.idiv, 1) := by decide +kernel
theorem dX7_isOfTwoAndThree_11 : decode cX7_isOfTwoAndThree 11 = .ok (.istore_n 1, 1) := by decide +kernel
theorem dX7_isOfTwoAndThree_12 : decode cX7_isOfTwoAndThree 12 = .ok (.goto (-10), 3) := by decide +kernel
theorem dX7_isOfTwoAndThree_15 : decode cX7_isOfTwoAndThree 15 = .ok (.iload_n 1, 1) := by decide +kernel
theorem dX7_isOfTwoAndThree_16 : decode cX7_isOfTwoAndThree 16 = .ok (.iconst 3, 1) := by decide +kernel
theorem dX7_isOfTwoAndThree_17 : decode cX7_isOfTwoAndThree 17 = .ok (.irem, 1) := by decide +kernel
theorem dX7_isOfTwoAndThree_18 : decode cX7_isOfTwoAndThree 18 = .ok (.ifCond .ne 10, 3) := by decide +kernel
theorem dX7_isOfTwoAndThree_21 : decode cX7_isOfTwoAndThree 21 = .ok (.iload_n 1, 1) := by decide +kernel
theorem dX7_isOfTwoAndThree_22 : decode cX7_isOfTwoAndThree 22 = .ok (.iconst 3, 1) := by decide +kernel
theorem dX7_isOfTwoAndThree_23 : decode cX7_isOfTwoAndThree 23 = .ok (.idiv, 1) := by decide +kernel
theorem dX7_isOfTwoAndThree_24 : decode cX7_isOfTwoAndThree 24 = .ok (.istore_n 1, 1) := by decide +kernel
theorem dX7_isOfTwoAndThree_25 : decode cX7_isOfTwoAndThree 25 = .ok (.goto (-10), 3) := by decide +kernel
theorem dX7_isOfTwoAndThree_28 : decode cX7_isOfTwoAndThree 28 = .ok (.iload_n 1, 1) := by decide +kernel
theorem dX7_isOfTwoAndThree_29 : decode cX7_isOfTwoAndThree 29 = .ok (.iconst 1, 1) := by decide +kernel
theorem dX7_isOfTwoAndThree_30 : decode cX7_isOfTwoAndThree 30 = .ok (.if_icmp .ne 7, 3) := by decide +kernel
theorem dX7_isOfTwoAndThree_33 : decode cX7_isOfTwoAndThree 33 = .ok (.iconst 1, 1) := by decide +kernel
theorem dX7_isOfTwoAndThree_34 : decode cX7_isOfTwoAndThree 34 = .ok (.goto 4, 3) := by decide +kernel
theorem dX7_isOfTwoAndThree_37 : decode cX7_isOfTwoAndThree 37 = .ok (.iconst 0, 1) := by decide +kernel
theorem dX7_isOfTwoAndThree_38 : decode cX7_isOfTwoAndThree 38 = .ok (.ireturn, 1) := by decide +kernel
set_option maxRecDepth 20000 in
theorem ggX7_may_X7_isOfTwoAndThree : GoodIn wsX7_may wsX7_isOfTwoAndThree := goodIn_r _ [5] (by decide +kernel) (by decide +kernel)
set_option maxRecDepth 20000 in
theorem gX7_may_X7_isOfTwoAndThree : GoodIn wsX7_may (va_wsS RX7 43 yX7_isOfTwoAndThree wsX7_isOfTwoAndThree) := goodIn_app (goodIn_of _ (by decide +kernel)) ggX7_may_X7_isOfTwoAndThree
set_option maxRecDepth 20000 in
theorem ggX7_may_X7_isPrime : GoodIn wsX7_may wsX7_isPrime := goodIn_r _ [8] (by decide +kernel) (by decide +kernel)
set_option maxRecDepth 20000 in
theorem gX7_may_X7_isPrime : GoodIn wsX7_may (va_wsS RX7 47 yX7_isPrime wsX7_isPrime) := goodIn_app (goodIn_of _ (by decide +kernel)) ggX7_may_X7_isPrime
set_option maxRecDepth 20000 in
theorem ggX7_may_X7_isSquare : GoodIn wsX7_may wsX7_isSquare := goodIn_r _ [11] (by decide +kernel) (by decide +kernel)
set_option maxRecDepth 20000 in
theorem gX7_may_X7_isSquare : GoodIn wsX7_may (va_wsS RX7 50 yX7_isSquare wsX7_isSquare) := goodIn_app (goodIn_of _ (by decide +kernel)) ggX7_may_X7_isSquare
theorem dX7_may_0 : decode cX7_may 0 = .ok (.aload_n 0, 1) := by decide +kernel
theorem dX7_may_1 : decode cX7_may 1 = .ok (.getfield 7, 3) := by decide +kernel
theorem dX7_may_4 : decode cX7_may 4 = .ok (.iload_n 1, 1) := by decide +kernel
theorem dX7_may_5 : decode cX7_may 5 = .ok (.baload, 1) := by decide +kernel
theorem dX7_may_6 : decode cX7_may 6 = .ok (.ifCond .eq 5, 3) := by decide +kernel
theorem dX7_may_9 : decode cX7_may 9 = .ok (.iconst 0, 1) := by decide +kernel
theorem dX7_may_10 : decode cX7_may 10 = .ok (.ireturn, 1) := by decide +kernel
theorem dX7_may_11 : decode cX7_may 11 = .ok (.iload_n 2, 1) := by decide +kernel
theorem dX7_may_12 : decode cX7_may 12 = .ok (.tableswitch 84 1 5 #[36, 49, 61, 66, 79], 36) := by decide +kernel
theorem dX7_may_48 : decode cX7_may 48 = .ok (.iload_n 1, 1) := by decide +kernel
theorem dX7_may_49 : decode cX7_may 49 = .ok (.iconst 2, 1) := by decide +kernel
theorem dX7_may_50 : decode cX7_may 50 = .ok (.irem, 1) := by decide +kernel
theorem dX7_may_51 : decode cX7_may 51 = .ok (.iconst 1, 1) := by decide +kernel
theorem dX7_may_52 : decode cX7_may 52 = .ok (.if_icmp .ne 7, 3) := by decide +kernel
theorem dX7_may_55 : decode cX7_may 55 = .ok (.iconst 1, 1) := by decide +kernel
theorem dX7_may_56 : decode cX7_may 56 = .ok (.goto 4, 3) := by decide +kernel
theorem dX7_may_59 : decode cX7_may 59 = .ok (.iconst 0, 1) := by decide +kernel
theorem dX7_may_60 : decode cX7_may 60 = .ok (.ireturn, 1) := by decide +kernel
theorem dX7_may_61 : decode cX7_may 61 = .ok (.iload_n 1, 1) := by decide +kernel
theorem dX7_may_62 : decode cX7_may 62 = .ok (.iconst 2, 1) := by decide +kernel
theorem dX7_may_63 : decode cX7_may 63 = .ok (.irem, 1) := by decide +kernel
theorem dX7_may_64 : decode cX7_may 64 = .ok (.ifCond .ne 7, 3) := by decide +kernel
theorem dX7_may_67 : decode cX7_may 67 = .ok (.iconst 1, 1) := by decide +kernel
theorem dX7_may_68 : decode cX7_may 68 = .ok (.goto 4, 3) := by decide +kernel
theorem dX7_may_71 : decode cX7_may 71 = .ok (.iconst 0, 1) := by decide +kernel
theorem dX7_may_72 : decode cX7_may 72 = .ok (.ireturn, 1) := by decide +kernel
theorem dX7_may_73 : decode cX7_may 73 = .ok (.iload_n 1, 1) := by decide +kernel
theorem dX7_may_74 : decode cX7_may 74 = .ok (.invokestatic 43, 3) := by decide +kernel
theorem dX7_may_77 : decode cX7_may 77 = .ok (.ireturn, 1) := by decide +kernel
theorem dX7_may_78 : decode cX7_may 78 = .ok (.iload_n 1, 1) := by decide +kernel
theorem dX7_may_79 : decode cX7_may 79 = .ok (.invokestatic 47, 3) := by decide +kernel
theorem dX7_may_82 : decode cX7_may 82 = .ok (.ifCond .ne 7, 3) := by decide +kernel
theorem dX7_may_85 : decode cX7_may 85 = .ok (.iconst 1, 1) := by decide +kernel
theorem dX7_may_86 : decode cX7_may 86 = .ok (.goto 4, 3) := by decide +kernel
theorem dX7_may_89 : decode cX7_may 89 = .ok (.iconst 0, 1) := by decide +kernel
theorem dX7_may_90 : decode cX7_may 90 = .ok (.ireturn, 1) := by decide +kernel
theorem dX7_may_91 : decode cX7_may 91 = .ok (.iload_n 1, 1) := by decide +kernel
theorem dX7_may_92 : decode cX7_may 92 = .ok (.invokestatic 50, 3) := by decide +kernel
theorem dX7_may_95 : decode cX7_may 95 = .ok (.ireturn, 1) := by decide +kernel
theorem dX7_may_96 : decode cX7_may 96 = .ok (.iconst 1, 1) := by decide +kernel
theorem dX7_may_97 : decode cX7_may 97 = .ok (.ireturn, 1) := by decide +kernel
set_option maxRecDepth 20000 in
theorem ggX7_isOf_X7_in : GoodIn wsX7_isOf wsX7_in := goodIn_r _ [4] (by decide +kernel) (by decide +kernel)
set_option maxRecDepth 20000 in
theorem gX7_isOf_X7_in : GoodIn wsX7_isOf (va_wsS RX7 39 yX7_in wsX7_in) := goodIn_app (goodIn_of _ (by decide +kernel)) ggX7_isOf_X7_in
set_option maxRecDepth 20000 in
theorem ggX7_isOf_X7_may : GoodIn wsX7_isOf wsX7_may := goodIn_r _ [8, 9, 10, 11, 3, 12, 13, 14, 15, 16, 17, 18, 19, 20, 21, 22, 23, 24, 25, 26, 27, 28, 29, 30, 31, 32, 33, 34, 35, 36, 37, 38, 39, 40, 41] (by decide +kernel) (by decide +kernel)
set_option maxRecDepth 20000 in
theorem gX7_isOf_X7_may : GoodIn wsX7_isOf (wsV RX7 53 RX7 yX7_may wsX7_may) := goodIn_app (goodIn_of _ (by decide +kernel)) ggX7_isOf_X7_may
theorem dX7_isOf_0 : decode cX7_isOf 0 = .ok (.iload_n 1, 1) := by decide +kernel
theorem dX7_isOf_1 : decode cX7_isOf 1 = .ok (.iconst 2, 1) := by decide +kernel
theorem dX7_isOf_2 : decode cX7_isOf 2 = .ok (.bipush 120, 2) := by decide +kernel
theorem dX7_isOf_4 : decode cX7_isOf 4 = .ok (.invokestatic 39, 3) := by decide +kernel
theorem dX7_isOf_7 : decode cX7_isOf 7 = .ok (.ifCond .eq 12, 3) := by decide +kernel
theorem dX7_isOf_10 : decode cX7_isOf 10 = .ok (.iload_n 2, 1) := by decide +kernel
theorem dX7_isOf_11 : decode cX7_isOf 11 = .ok (.iconst 0, 1) := by decide +kernel
theorem dX7_isOf_12 : decode cX7_isOf 12 = .ok (.iconst 5, 1) := by decide +kernel
theorem dX7_isOf_13 : decode cX7_isOf 13 = .ok (.invokestatic 39, 3) := by decide +kernel
theorem dX7_isOf_16 : decode cX7_isOf 16 = .ok (.ifCond .ne 6, 3) := by decide +kernel
theorem dX7_isOf_19 : decode cX7_isOf 19 = .ok (.bipush (-102), 2) := by decide +kernel
theorem dX7_isOf_21 : decode cX7_isOf 21 = .ok (.ireturn, 1) := by decide +kernel
theorem dX7_isOf_22 : decode cX7_isOf 22 = .ok (.aload_n 0, 1) := by decide +kernel
theorem dX7_isOf_23 : decode cX7_isOf 23 = .ok (.iload_n 1, 1) := by decide +kernel
theorem dX7_isOf_24 : decode cX7_isOf 24 = .ok (.iload_n 2, 1) := by decide +kernel
theorem dX7_isOf_25 : decode cX7_isOf 25 = .ok (.invokevirtual 53, 3) := by decide +kernel
theorem dX7_isOf_28 : decode cX7_isOf 28 = .ok (.ifCond .eq 7, 3) := by decide +kernel
theorem dX7_isOf_31 : decode cX7_isOf 31 = .ok (.iconst 1, 1) := by decide +kernel
theorem dX7_isOf_32 : decode cX7_isOf 32 = .ok (.goto 4, 3) := by decide +kernel
theorem dX7_isOf_35 : decode cX7_isOf 35 = .ok (.iconst 0, 1) := by decide +kernel
theorem dX7_isOf_36 : decode cX7_isOf 36 = .ok (.ireturn, 1) := by decide +kernel
set_option maxRecDepth 20000 in
theorem ggX7_next_X7_may : GoodIn wsX7_next wsX7_may := goodIn_r _ [8, 9, 10, 11, 7, 12, 13, 14, 15, 16, 17, 18, 19, 20, 21, 22, 23, 24, 25, 26, 27, 28, 29, 30, 31, 32, 33, 34, 35, 36, 37, 38, 39, 40, 41] (by decide +kernel) (by decide +kernel)
set_option maxRecDepth 20000 in
theorem gX7_next_X7_may : GoodIn wsX7_next (wsV RX7 53 RX7 yX7_may wsX7_may) := goodIn_app (goodIn_of _ (by decide +kernel)) ggX7_next_X7_may
theorem dX7_next_0 : decode cX7_next 0 = .ok (.aload_n 0, 1) := by decide +kernel
theorem dX7_next_1 : decode cX7_next 1 = .ok (.getfield 30, 3) := by decide +kernel
theorem dX7_next_4 : decode cX7_next 4 = .ok (.iload_n 1, 1) := by decide +kernel
theorem dX7_next_5 : decode cX7_next 5 = .ok (.laload, 1) := by decide +kernel
theorem dX7_next_6 : decode cX7_next 6 = .ok (.lstore 5, 2) := by decide +kernel
theorem dX7_next_8 : decode cX7_next 8 = .ok (.aload_n 0, 1) := by decide +kernel
theorem dX7_next_9 : decode cX7_next 9 = .ok (.getfield 33, 3) := by decide +kernel
theorem dX7_next_12 : decode cX7_next 12 = .ok (.iload_n 1, 1) := by decide +kernel
theorem dX7_next_13 : decode cX7_next 13 = .ok (.laload, 1) := by decide +kernel
theorem dX7_next_14 : decode cX7_next 14 = .ok (.lstore 7, 2) := by decide +kernel
theorem dX7_next_16 : decode cX7_next 16 = .ok (.iload_n 1, 1) := by decide +kernel
theorem dX7_next_17 : decode cX7_next 17 = .ok (.ifCond .ne 7, 3) := by decide +kernel
theorem dX7_next_20 : decode cX7_next 20 = .ok (.iconst 2, 1) := by decide +kernel
theorem dX7_next_21 : decode cX7_next 21 = .ok (.goto 13, 3) := by decide +kernel
theorem dX7_next_24 : decode cX7_next 24 = .ok (.aload_n 0, 1) := by decide +kernel
theorem dX7_next_25 : decode cX7_next 25 = .ok (.getfield 27, 3) := by decide +kernel
theorem dX7_next_28 : decode cX7_next 28 = .ok (.iload_n 1, 1) := by decide +kernel
theorem dX7_next_29 : decode cX7_next 29 = .ok (.iconst 1, 1) := by decide +kernel
theorem dX7_next_30 : decode cX7_next 30 = .ok (.isub, 1) := by decide +kernel
theorem dX7_next_31 : decode cX7_next 31 = .ok (.iaload, 1) := by decide +kernel
theorem dX7_next_32 : decode cX7_next 32 = .ok (.iconst 1, 1) := by decide +kernel
theorem dX7_next_33 : decode cX7_next 33 = .ok (.iadd, 1) := by decide +kernel
theorem dX7_next_34 : decode cX7_next 34 = .ok (.istore 9, 2) := by decide +kernel
theorem dX7_next_36 : decode cX7_next 36 = .ok (.aload_n 0, 1) := by decide +kernel
theorem dX7_next_37 : decode cX7_next 37 = .ok (.getfield 27, 3) := by decide +kernel
theorem dX7_next_40 : decode cX7_next 40 = .ok (.iload_n 1, 1) := by decide +kernel
theorem dX7_next_41 : decode cX7_next 41 = .ok (.iaload, 1) := by decide +kernel
theorem dX7_next_42 : decode cX7_next 42 = .ok (.ifCond .ne 8, 3) := by decide +kernel
theorem dX7_next_45 : decode cX7_next 45 = .ok (.iload 9, 2) := by decide +kernel
theorem dX7_next_47 : decode cX7_next 47 = .ok (.goto 11, 3) := by decide +kernel
theorem dX7_next_50 : decode cX7_next 50 = .ok (.aload_n 0, 1) := by decide +kernel
theorem dX7_next_51 : decode cX7_next 51 = .ok (.getfield 27, 3) := by decide +kernel
theorem dX7_next_54 : decode cX7_next 54 = .ok (.iload_n 1, 1) := by decide +kernel
theorem dX7_next_55 : decode cX7_next 55 = .ok (.iaload, 1) := by decide +kernel
theorem dX7_next_56 : decode cX7_next 56 = .ok (.iconst 1, 1) := by decide +kernel
theorem dX7_next_57 : decode cX7_next 57 = .ok (.iadd, 1) := by decide +kernel
theorem dX7_next_58 : decode cX7_next 58 = .ok (.istore 10, 2) := by decide +kernel
theorem dX7_next_60 : decode cX7_next 60 = .ok (.iload_n 1, 1) := by decide +kernel
theorem dX7_next_61 : decode cX7_next 61 = .ok (.iload_n 2, 1) := by decide +kernel
theorem dX7_next_62 : decode cX7_next 62 = .ok (.iconst 1, 1) := by decide +kernel
theorem dX7_next_63 : decode cX7_next 63 = .ok (.isub, 1) := by decide +kernel
theorem dX7_next_64 : decode cX7_next 64 = .ok (.if_icmp .ne 7, 3) := by decide +kernel
theorem dX7_next_67 : decode cX7_next 67 = .ok (.iconst 1, 1) := by decide +kernel
theorem dX7_next_68 : decode cX7_next 68 = .ok (.goto 4, 3) := by decide +kernel
theorem dX7_next_71 : decode cX7_next 71 = .ok (.iconst 0, 1) := by decide +kernel
theorem dX7_next_72 : decode cX7_next 72 = .ok (.istore 11, 2) := by decide +kernel
theorem dX7_next_74 : decode cX7_next 74 = .ok (.lload 7, 2) := by decide +kernel
theorem dX7_next_76 : decode cX7_next 76 = .ok (.lload 5, 2) := by decide +kernel
theorem dX7_next_78 : decode cX7_next 78 = .ok (.ldiv, 1) := by decide +kernel
theorem dX7_next_79 : decode cX7_next 79 = .ok (.iload 11, 2) := by decide +kernel
theorem dX7_next_81 : decode cX7_next 81 = .ok (.ifCond .eq 17, 3) := by decide +kernel
theorem dX7_next_84 : decode cX7_next 84 = .ok (.lload 7, 2) := by decide +kernel
theorem dX7_next_86 : decode cX7_next 86 = .ok (.lload 5, 2) := by decide +kernel
theorem dX7_next_88 : decode cX7_next 88 = .ok (.lrem, 1) := by decide +kernel
theorem dX7_next_89 : decode cX7_next 89 = .ok (.lconst 0, 1) := by decide +kernel
theorem dX7_next_90 : decode cX7_next 90 = .ok (.lcmp, 1) := by decide +kernel
theorem dX7_next_91 : decode cX7_next 91 = .ok (.ifCond .ne 7, 3) := by decide +kernel
theorem dX7_next_94 : decode cX7_next 94 = .ok (.lconst 0, 1) := by decide +kernel
theorem dX7_next_95 : decode cX7_next 95 = .ok (.goto 4, 3) := by decide +kernel
theorem dX7_next_98 : decode cX7_next 98 = .ok (.lconst 1, 1) := by decide +kernel
theorem dX7_next_99 : decode cX7_next 99 = .ok (.ladd, 1) := by decide +kernel
theorem dX7_next_100 : decode cX7_next 100 = .ok (.lstore 12, 2) := by decide +kernel
theorem dX7_next_102 : decode cX7_next 102 = .ok (.iload 11, 2) := by decide +kernel
theorem dX7_next_104 : decode cX7_next 104 = .ok (.ifCond .eq 13, 3) := by decide +kernel
theorem dX7_next_107 : decode cX7_next 107 = .ok (.lload 7, 2) := by decide +kernel
theorem dX7_next_109 : decode cX7_next 109 = .ok (.lload 5, 2) := by decide +kernel
theorem dX7_next_111 : decode cX7_next 111 = .ok (.lrem, 1) := by decide +kernel
theorem dX7_next_112 : decode cX7_next 112 = .ok (.lconst 0, 1) := by decide +kernel
theorem dX7_next_113 : decode cX7_next 113 = .ok (.lcmp, 1) := by decide +kernel
theorem dX7_next_114 : decode cX7_next 114 = .ok (.ifCond .ne 12, 3) := by decide +kernel
theorem dX7_next_117 : decode cX7_next 117 = .ok (.lload 12, 2) := by decide +kernel
theorem dX7_next_119 : decode cX7_next 119 = .ok (.iload 4, 2) := by decide +kernel
theorem dX7_next_121 : decode cX7_next 121 = .ok (.i2l, 1) := by decide +kernel
