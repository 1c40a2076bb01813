theorem dX4_leaveOutLonely_6 : decode cX4_leaveOutLonely 6 = .ok (.arraylength, 1) := by decide +kernel
theorem dX4_leaveOutLonely_7 : decode cX4_leaveOutLonely 7 = .ok (.if_icmp .ge 59, 3) := by decide +kernel
theorem dX4_leaveOutLonely_10 : decode cX4_leaveOutLonely 10 = .ok (.getstatic 66, 3) := by decide +kernel
theorem dX4_leaveOutLonely_13 : decode cX4_leaveOutLonely 13 = .ok (.iload_n 1, 1) := by decide +kernel
theorem dX4_leaveOutLonely_14 : decode cX4_leaveOutLonely 14 = .ok (.iaload, 1) := by decide +kernel
theorem dX4_leaveOutLonely_15 : decode cX4_leaveOutLonely 15 = .ok (.istore_n 2, 1) := by decide +kernel
theorem dX4_leaveOutLonely_16 : decode cX4_leaveOutLonely 16 = .ok (.iload_n 2, 1) := by decide +kernel
theorem dX4_leaveOutLonely_17 : decode cX4_leaveOutLonely 17 = .ok (.ifCond .le 43, 3) := by decide +kernel
theorem dX4_leaveOutLonely_20 : decode cX4_leaveOutLonely 20 = .ok (.aload_n 0, 1) := by decide +kernel
theorem dX4_leaveOutLonely_21 : decode cX4_leaveOutLonely 21 = .ok (.getfield 31, 3) := by decide +kernel
theorem dX4_leaveOutLonely_24 : decode cX4_leaveOutLonely 24 = .ok (.getfield 69, 3) := by decide +kernel
theorem dX4_leaveOutLonely_27 : decode cX4_leaveOutLonely 27 = .ok (.iload_n 2, 1) := by decide +kernel
theorem dX4_leaveOutLonely_28 : decode cX4_leaveOutLonely 28 = .ok (.i2l, 1) := by decide +kernel
theorem dX4_leaveOutLonely_29 : decode cX4_leaveOutLonely 29 = .ok (.lrem, 1) := by decide +kernel
theorem dX4_leaveOutLonely_30 : decode cX4_leaveOutLonely 30 = .ok (.lconst 0, 1) := by decide +kernel
theorem dX4_leaveOutLonely_31 : decode cX4_leaveOutLonely 31 = .ok (.lcmp, 1) := by decide +kernel
theorem dX4_leaveOutLonely_32 : decode cX4_leaveOutLonely 32 = .ok (.ifCond .eq 28, 3) := by decide +kernel
theorem dX4_leaveOutLonely_35 : decode cX4_leaveOutLonely 35 = .ok (.iload_n 2, 1) := by decide +kernel
theorem dX4_leaveOutLonely_36 : decode cX4_leaveOutLonely 36 = .ok (.istore_n 3, 1) := by decide +kernel
theorem dX4_leaveOutLonely_37 : decode cX4_leaveOutLonely 37 = .ok (.iload_n 3, 1) := by decide +kernel
theorem dX4_leaveOutLonely_38 : decode cX4_leaveOutLonely 38 = .ok (.aload_n 0, 1) := by decide +kernel
theorem dX4_leaveOutLonely_39 : decode cX4_leaveOutLonely 39 = .ok (.getfield 9, 3) := by decide +kernel
theorem dX4_leaveOutLonely_42 : decode cX4_leaveOutLonely 42 = .ok (.arraylength, 1) := by decide +kernel
theorem dX4_leaveOutLonely_43 : decode cX4_leaveOutLonely 43 = .ok (.if_icmp .ge 17, 3) := by decide +kernel
theorem dX4_leaveOutLonely_46 : decode cX4_leaveOutLonely 46 = .ok (.aload_n 0, 1) := by decide +kernel
theorem dX4_leaveOutLonely_47 : decode cX4_leaveOutLonely 47 = .ok (.getfield 9, 3) := by decide +kernel
theorem dX4_leaveOutLonely_50 : decode cX4_leaveOutLonely 50 = .ok (.iload_n 3, 1) := by decide +kernel
theorem dX4_leaveOutLonely_51 : decode cX4_leaveOutLonely 51 = .ok (.iconst 0, 1) := by decide +kernel
theorem dX4_leaveOutLonely_52 : decode cX4_leaveOutLonely 52 = .ok (.bastore, 1) := by decide +kernel
theorem dX4_leaveOutLonely_53 : decode cX4_leaveOutLonely 53 = .ok (.iload_n 3, 1) := by decide +kernel
theorem dX4_leaveOutLonely_54 : decode cX4_leaveOutLonely 54 = .ok (.iload_n 2, 1) := by decide +kernel
theorem dX4_leaveOutLonely_55 : decode cX4_leaveOutLonely 55 = .ok (.iadd, 1) := by decide +kernel
theorem dX4_leaveOutLonely_56 : decode cX4_leaveOutLonely 56 = .ok (.istore_n 3, 1) := by decide +kernel
theorem dX4_leaveOutLonely_57 : decode cX4_leaveOutLonely 57 = .ok (.goto (-20), 3) := by decide +kernel
theorem dX4_leaveOutLonely_60 : decode cX4_leaveOutLonely 60 = .ok (.iinc 1 1, 3) := by decide +kernel
theorem dX4_leaveOutLonely_63 : decode cX4_leaveOutLonely 63 = .ok (.goto (-61), 3) := by decide +kernel
theorem dX4_leaveOutLonely_66 : decode cX4_leaveOutLonely 66 = .ok (.return_, 1) := by decide +kernel
theorem dX4_listUsable_0 : decode cX4_listUsable 0 = .ok (.aload_n 0, 1) := by decide +kernel
theorem dX4_listUsable_1 : decode cX4_listUsable 1 = .ok (.iconst 0, 1) := by decide +kernel
theorem dX4_listUsable_2 : decode cX4_listUsable 2 = .ok (.putfield 73, 3) := by decide +kernel
theorem dX4_listUsable_5 : decode cX4_listUsable 5 = .ok (.iconst 0, 1) := by decide +kernel
theorem dX4_listUsable_6 : decode cX4_listUsable 6 = .ok (.istore_n 1, 1) := by decide +kernel
theorem dX4_listUsable_7 : decode cX4_listUsable 7 = .ok (.iload_n 1, 1) := by decide +kernel
theorem dX4_listUsable_8 : decode cX4_listUsable 8 = .ok (.aload_n 0, 1) := by decide +kernel
theorem dX4_listUsable_9 : decode cX4_listUsable 9 = .ok (.getfield 9, 3) := by decide +kernel
theorem dX4_listUsable_12 : decode cX4_listUsable 12 = .ok (.arraylength, 1) := by decide +kernel
theorem dX4_listUsable_13 : decode cX4_listUsable 13 = .ok (.if_icmp .ge 60, 3) := by decide +kernel
theorem dX4_listUsable_16 : decode cX4_listUsable 16 = .ok (.aload_n 0, 1) := by decide +kernel
theorem dX4_listUsable_17 : decode cX4_listUsable 17 = .ok (.getfield 19, 3) := by decide +kernel
theorem dX4_listUsable_20 : decode cX4_listUsable 20 = .ok (.iload_n 1, 1) := by decide +kernel
theorem dX4_listUsable_21 : decode cX4_listUsable 21 = .ok (.aload_n 0, 1) := by decide +kernel
theorem dX4_listUsable_22 : decode cX4_listUsable 22 = .ok (.getfield 73, 3) := by decide +kernel
theorem dX4_listUsable_25 : decode cX4_listUsable 25 = .ok (.iastore, 1) := by decide +kernel
theorem dX4_listUsable_26 : decode cX4_listUsable 26 = .ok (.aload_n 0, 1) := by decide +kernel
theorem dX4_listUsable_27 : decode cX4_listUsable 27 = .ok (.getfield 9, 3) := by decide +kernel
theorem dX4_listUsable_30 : decode cX4_listUsable 30 = .ok (.iload_n 1, 1) := by decide +kernel
theorem dX4_listUsable_31 : decode cX4_listUsable 31 = .ok (.baload, 1) := by decide +kernel
theorem dX4_listUsable_32 : decode cX4_listUsable 32 = .ok (.ifCond .eq 35, 3) := by decide +kernel
theorem dX4_listUsable_35 : decode cX4_listUsable 35 = .ok (.aload_n 0, 1) := by decide +kernel
theorem dX4_listUsable_36 : decode cX4_listUsable 36 = .ok (.getfield 73, 3) := by decide +kernel
theorem dX4_listUsable_39 : decode cX4_listUsable 39 = .ok (.aload_n 0, 1) := by decide +kernel
theorem dX4_listUsable_40 : decode cX4_listUsable 40 = .ok (.getfield 15, 3) := by decide +kernel
theorem dX4_listUsable_43 : decode cX4_listUsable 43 = .ok (.arraylength, 1) := by decide +kernel
theorem dX4_listUsable_44 : decode cX4_listUsable 44 = .ok (.if_icmp .ge 23, 3) := by decide +kernel
theorem dX4_listUsable_47 : decode cX4_listUsable 47 = .ok (.aload_n 0, 1) := by decide +kernel
theorem dX4_listUsable_48 : decode cX4_listUsable 48 = .ok (.getfield 15, 3) := by decide +kernel
theorem dX4_listUsable_51 : decode cX4_listUsable 51 = .ok (.aload_n 0, 1) := by decide +kernel
theorem dX4_listUsable_52 : decode cX4_listUsable 52 = .ok (.getfield 73, 3) := by decide +kernel
theorem dX4_listUsable_55 : decode cX4_listUsable 55 = .ok (.iload_n 1, 1) := by decide +kernel
theorem dX4_listUsable_56 : decode cX4_listUsable 56 = .ok (.iastore, 1) := by decide +kernel
theorem dX4_listUsable_57 : decode cX4_listUsable 57 = .ok (.aload_n 0, 1) := by decide +kernel
theorem dX4_listUsable_58 : decode cX4_listUsable 58 = .ok (.dup, 1) := by decide +kernel
theorem dX4_listUsable_59 : decode cX4_listUsable 59 = .ok (.getfield 73, 3) := by decide +kernel
theorem dX4_listUsable_62 : decode cX4_listUsable 62 = .ok (.iconst 1, 1) := by decide +kernel
theorem dX4_listUsable_63 : decode cX4_listUsable 63 = .ok (.iadd, 1) := by decide +kernel
theorem dX4_listUsable_64 : decode cX4_listUsable 64 = .ok (.putfield 73, 3) := by decide +kernel
theorem dX4_listUsable_67 : decode cX4_listUsable 67 = .ok (.iinc 1 1, 3) := by decide +kernel
theorem dX4_listUsable_70 : decode cX4_listUsable 70 = .ok (.goto (-63), 3) := by decide +kernel
theorem dX4_listUsable_73 : decode cX4_listUsable 73 = .ok (.return_, 1) := by decide +kernel
set_option maxRecDepth 20000 in
theorem ggX4_seekAll_X4_finish : GoodIn wsX4_seekAll wsX4_finish := goodIn_r _ [16, 8, 17, 18, 19, 20, 15, 21, 4, 3, 1, 5, 6, 22, 23, 24, 25, 26, 2, 46, 47, 48, 49, 50, 51, 52, 53, 54, 55, 56, 57, 58, 59] (by decide +kernel) (by decide +kernel)
set_option maxRecDepth 20000 in
theorem gX4_seekAll_X4_finish : GoodIn wsX4_seekAll (wsV RX4 91 RX4 yX4_finish wsX4_finish) := goodIn_app (goodIn_of _ (by decide +kernel)) ggX4_seekAll_X4_finish
set_option maxRecDepth 20000 in
theorem ggX4_seekAll_X4_seek : GoodIn wsX4_seekAll wsX4_seek := goodIn_r _ [30, 31, 32, 33, 34, 35, 2, 36, 37, 38, 39, 15, 40, 8, 41, 42, 43, 44, 45, 4, 3, 27, 28, 29, 12, 13, 14, 16, 17, 18, 19, 20, 21, 1, 5, 6, 22, 23, 24, 25, 26, 46, 47, 48, 49, 50, 51, 52, 53, 54, 55, 56, 57, 58, 59] (by decide +kernel) (by decide +kernel)
set_option maxRecDepth 20000 in
theorem gX4_seekAll_X4_seek : GoodIn wsX4_seekAll (wsV RX4 95 RX4 yX4_seek wsX4_seek) := goodIn_app (goodIn_of _ (by decide +kernel)) ggX4_seekAll_X4_seek
theorem dX4_seekAll_0 : decode cX4_seekAll 0 = .ok (.aload_n 0, 1) := by decide +kernel
theorem dX4_seekAll_1 : decode cX4_seekAll 1 = .ok (.iconst 0, 1) := by decide +kernel
theorem dX4_seekAll_2 : decode cX4_seekAll 2 = .ok (.putfield 59, 3) := by decide +kernel
theorem dX4_seekAll_5 : decode cX4_seekAll 5 = .ok (.aload_n 0, 1) := by decide +kernel
theorem dX4_seekAll_6 : decode cX4_seekAll 6 = .ok (.iconst 0, 1) := by decide +kernel
theorem dX4_seekAll_7 : decode cX4_seekAll 7 = .ok (.putfield 62, 3) := by decide +kernel
theorem dX4_seekAll_10 : decode cX4_seekAll 10 = .ok (.iload_n 1, 1) := by decide +kernel
theorem dX4_seekAll_11 : decode cX4_seekAll 11 = .ok (.iconst 1, 1) := by decide +kernel
theorem dX4_seekAll_12 : decode cX4_seekAll 12 = .ok (.if_icmp .lt 12, 3) := by decide +kernel
theorem dX4_seekAll_15 : decode cX4_seekAll 15 = .ok (.iload_n 1, 1) := by decide +kernel
theorem dX4_seekAll_16 : decode cX4_seekAll 16 = .ok (.aload_n 0, 1) := by decide +kernel
theorem dX4_seekAll_17 : decode cX4_seekAll 17 = .ok (.getfield 22, 3) := by decide +kernel
theorem dX4_seekAll_20 : decode cX4_seekAll 20 = .ok (.arraylength, 1) := by decide +kernel
theorem dX4_seekAll_21 : decode cX4_seekAll 21 = .ok (.if_icmp .le 4, 3) := by decide +kernel
theorem dX4_seekAll_24 : decode cX4_seekAll 24 = .ok (.return_, 1) := by decide +kernel
theorem dX4_seekAll_25 : decode cX4_seekAll 25 = .ok (.aload_n 0, 1) := by decide +kernel
theorem dX4_seekAll_26 : decode cX4_seekAll 26 = .ok (.iload_n 1, 1) := by decide +kernel
theorem dX4_seekAll_27 : decode cX4_seekAll 27 = .ok (.putfield 76, 3) := by decide +kernel
theorem dX4_seekAll_30 : decode cX4_seekAll 30 = .ok (.aload_n 0, 1) := by decide +kernel
theorem dX4_seekAll_31 : decode cX4_seekAll 31 = .ok (.iload_n 2, 1) := by decide +kernel
theorem dX4_seekAll_32 : decode cX4_seekAll 32 = .ok (.putfield 79, 3) := by decide +kernel
theorem dX4_seekAll_35 : decode cX4_seekAll 35 = .ok (.aload_n 0, 1) := by decide +kernel
theorem dX4_seekAll_36 : decode cX4_seekAll 36 = .ok (.iload_n 3, 1) := by decide +kernel
theorem dX4_seekAll_37 : decode cX4_seekAll 37 = .ok (.putfield 82, 3) := by decide +kernel
theorem dX4_seekAll_40 : decode cX4_seekAll 40 = .ok (.aload_n 0, 1) := by decide +kernel
theorem dX4_seekAll_41 : decode cX4_seekAll 41 = .ok (.aload_n 0, 1) := by decide +kernel
theorem dX4_seekAll_42 : decode cX4_seekAll 42 = .ok (.getfield 39, 3) := by decide +kernel
theorem dX4_seekAll_45 : decode cX4_seekAll 45 = .ok (.putfield 85, 3) := by decide +kernel
theorem dX4_seekAll_48 : decode cX4_seekAll 48 = .ok (.iload_n 1, 1) := by decide +kernel
theorem dX4_seekAll_49 : decode cX4_seekAll 49 = .ok (.iconst 1, 1) := by decide +kernel
theorem dX4_seekAll_50 : decode cX4_seekAll 50 = .ok (.if_icmp .ne 25, 3) := by decide +kernel
theorem dX4_seekAll_53 : decode cX4_seekAll 53 = .ok (.aload_n 0, 1) := by decide +kernel
theorem dX4_seekAll_54 : decode cX4_seekAll 54 = .ok (.iconst 1, 1) := by decide +kernel
theorem dX4_seekAll_55 : decode cX4_seekAll 55 = .ok (.aload_n 0, 1) := by decide +kernel
theorem dX4_seekAll_56 : decode cX4_seekAll 56 = .ok (.getfield 31, 3) := by decide +kernel
theorem dX4_seekAll_59 : decode cX4_seekAll 59 = .ok (.getfield 88, 3) := by decide +kernel
theorem dX4_seekAll_62 : decode cX4_seekAll 62 = .ok (.aload_n 0, 1) := by decide +kernel
theorem dX4_seekAll_63 : decode cX4_seekAll 63 = .ok (.getfield 31, 3) := by decide +kernel
theorem dX4_seekAll_66 : decode cX4_seekAll 66 = .ok (.getfield 69, 3) := by decide +kernel
theorem dX4_seekAll_69 : decode cX4_seekAll 69 = .ok (.invokevirtual 91, 3) := by decide +kernel
theorem dX4_seekAll_72 : decode cX4_seekAll 72 = .ok (.goto 23, 3) := by decide +kernel
theorem dX4_seekAll_75 : decode cX4_seekAll 75 = .ok (.aload_n 0, 1) := by decide +kernel
theorem dX4_seekAll_76 : decode cX4_seekAll 76 = .ok (.iload_n 1, 1) := by decide +kernel
theorem dX4_seekAll_77 : decode cX4_seekAll 77 = .ok (.iconst 0, 1) := by decide +kernel
theorem dX4_seekAll_78 : decode cX4_seekAll 78 = .ok (.aload_n 0, 1) := by decide +kernel
theorem dX4_seekAll_79 : decode cX4_seekAll 79 = .ok (.getfield 31, 3) := by decide +kernel
theorem dX4_seekAll_82 : decode cX4_seekAll 82 = .ok (.getfield 88, 3) := by decide +kernel
theorem dX4_seekAll_85 : decode cX4_seekAll 85 = .ok (.aload_n 0, 1) := by decide +kernel
theorem dX4_seekAll_86 : decode cX4_seekAll 86 = .ok (.getfield 31, 3) := by decide +kernel
theorem dX4_seekAll_89 : decode cX4_seekAll 89 = .ok (.getfield 69, 3) := by decide +kernel
theorem dX4_seekAll_92 : decode cX4_seekAll 92 = .ok (.invokevirtual 95, 3) := by decide +kernel
theorem dX4_seekAll_95 : decode cX4_seekAll 95 = .ok (.return_, 1) := by decide +kernel
set_option maxRecDepth 20000 in
theorem ggX4_seek_X4_firstPlace : GoodIn wsX4_seek wsX4_firstPlace := goodIn_r _ [12, 13, 1, 14, 41, 42, 43, 44, 45, 46, 47, 48, 49, 50, 51, 52, 53, 54] (by decide +kernel) (by decide +kernel)
set_option maxRecDepth 20000 in
theorem gX4_seek_X4_firstPlace : GoodIn wsX4_seek (wsV RX4 99 RX4 yX4_firstPlace wsX4_firstPlace) := goodIn_app (goodIn_of _ (by decide +kernel)) ggX4_seek_X4_firstPlace
set_option maxRecDepth 20000 in
theorem ggX4_seek_X4_choose : GoodIn wsX4_seek wsX4_choose := goodIn_r _ [18, 19, 20, 7, 21, 22, 23, 11, 24, 25, 26, 27, 13, 28, 29, 30, 31, 32, 33, 34, 35, 36, 37, 38, 39, 40, 6, 0, 1, 2, 3, 4, 5, 8, 9, 10, 12, 14, 15, 16, 17, 41, 42, 43, 44, 45, 46, 47, 48, 49, 50, 51, 52, 53, 54] (by decide +kernel) (by decide +kernel)
set_option maxRecDepth 20000 in
theorem gX4_seek_X4_choose : GoodIn wsX4_seek (wsV RX4 109 RX4 yX4_choose wsX4_choose) := goodIn_app (goodIn_of _ (by decide +kernel)) ggX4_seek_X4_choose
theorem dX4_seek_0 : decode cX4_seek 0 = .ok (.aload_n 0, 1) := by decide +kernel
theorem dX4_seek_1 : decode cX4_seek 1 = .ok (.getfield 73, 3) := by decide +kernel
theorem dX4_seek_4 : decode cX4_seek 4 = .ok (.iload_n 1, 1) := by decide +kernel
theorem dX4_seek_5 : decode cX4_seek 5 = .ok (.isub, 1) := by decide +kernel
theorem dX4_seek_6 : decode cX4_seek 6 = .ok (.istore 7, 2) := by decide +kernel
theorem dX4_seek_8 : decode cX4_seek 8 = .ok (.iload_n 2, 1) := by decide +kernel
theorem dX4_seek_9 : decode cX4_seek 9 = .ok (.aload_n 0, 1) := by decide +kernel
theorem dX4_seek_10 : decode cX4_seek 10 = .ok (.iload_n 1, 1) := by decide +kernel
theorem dX4_seek_11 : decode cX4_seek 11 = .ok (.lload_n 3, 1) := by decide +kernel
theorem dX4_seek_12 : decode cX4_seek 12 = .ok (.lload 5, 2) := by decide +kernel
theorem dX4_seek_14 : decode cX4_seek 14 = .ok (.invokevirtual 99, 3) := by decide +kernel
theorem dX4_seek_17 : decode cX4_seek 17 = .ok (.invokestatic 103, 3) := by decide +kernel
theorem dX4_seek_20 : decode cX4_seek 20 = .ok (.istore 8, 2) := by decide +kernel
theorem dX4_seek_22 : decode cX4_seek 22 = .ok (.iload 8, 2) := by decide +kernel
theorem dX4_seek_24 : decode cX4_seek 24 = .ok (.iload 7, 2) := by decide +kernel
theorem dX4_seek_26 : decode cX4_seek 26 = .ok (.if_icmp .gt 89, 3) := by decide +kernel
theorem dX4_seek_29 : decode cX4_seek 29 = .ok (.aload_n 0, 1) := by decide +kernel
theorem dX4_seek_30 : decode cX4_seek 30 = .ok (.getfield 62, 3) := by decide +kernel
theorem dX4_seek_33 : decode cX4_seek 33 = .ok (.ifCond .ne 82, 3) := by decide +kernel
theorem dX4_seek_36 : decode cX4_seek 36 = .ok (.aload_n 0, 1) := by decide +kernel
theorem dX4_seek_37 : decode cX4_seek 37 = .ok (.getfield 15, 3) := by decide +kernel
theorem dX4_seek_40 : decode cX4_seek 40 = .ok (.iload 8, 2) := by decide +kernel
theorem dX4_seek_42 : decode cX4_seek 42 = .ok (.iaload, 1) := by decide +kernel
theorem dX4_seek_43 : decode cX4_seek 43 = .ok (.i2l, 1) := by decide +kernel
theorem dX4_seek_44 : decode cX4_seek 44 = .ok (.lstore 9, 2) := by decide +kernel
theorem dX4_seek_46 : decode cX4_seek 46 = .ok (.lload_n 3, 1) := by decide +kernel
theorem dX4_seek_47 : decode cX4_seek 47 = .ok (.lload 9, 2) := by decide +kernel
theorem dX4_seek_49 : decode cX4_seek 49 = .ok (.lmul, 1) := by decide +kernel
theorem dX4_seek_50 : decode cX4_seek 50 = .ok (.iload_n 1, 1) := by decide +kernel
theorem dX4_seek_51 : decode cX4_seek 51 = .ok (.i2l, 1) := by decide +kernel
theorem dX4_seek_52 : decode cX4_seek 52 = .ok (.lload 5, 2) := by decide +kernel
theorem dX4_seek_54 : decode cX4_seek 54 = .ok (.lmul, 1) := by decide +kernel
theorem dX4_seek_55 : decode cX4_seek 55 = .ok (.lcmp, 1) := by decide +kernel
theorem dX4_seek_56 : decode cX4_seek 56 = .ok (.ifCond .lt 4, 3) := by decide +kernel
theorem dX4_seek_59 : decode cX4_seek 59 = .ok (.return_, 1) := by decide +kernel
theorem dX4_seek_60 : decode cX4_seek 60 = .ok (.lload_n 3, 1) := by decide +kernel
theorem dX4_seek_61 : decode cX4_seek 61 = .ok (.lload 9, 2) := by decide +kernel
theorem dX4_seek_63 : decode cX4_seek 63 = .ok (.lmul, 1) := by decide +kernel
theorem dX4_seek_64 : decode cX4_seek 64 = .ok (.lload 5, 2) := by decide +kernel
theorem dX4_seek_66 : decode cX4_seek 66 = .ok (.lsub, 1) := by decide +kernel
theorem dX4_seek_67 : decode cX4_seek 67 = .ok (.lstore 11, 2) := by decide +kernel
theorem dX4_seek_69 : decode cX4_seek 69 = .ok (.lload 5, 2) := by decide +kernel
theorem dX4_seek_71 : decode cX4_seek 71 = .ok (.lload 9, 2) := by decide +kernel
theorem dX4_seek_73 : decode cX4_seek 73 = .ok (.lmul, 1) := by decide +kernel
theorem dX4_seek_74 : decode cX4_seek 74 = .ok (.lstore 13, 2) := by decide +kernel
theorem dX4_seek_76 : decode cX4_seek 76 = .ok (.lload 11, 2) := by decide +kernel
theorem dX4_seek_78 : decode cX4_seek 78 = .ok (.lconst 0, 1) := by decide +kernel
theorem dX4_seek_79 : decode cX4_seek 79 = .ok (.lcmp, 1) := by decide +kernel
theorem dX4_seek_80 : decode cX4_seek 80 = .ok (.ifCond .le 29, 3) := by decide +kernel
theorem dX4_seek_83 : decode cX4_seek 83 = .ok (.iload_n 1, 1) := by decide +kernel
theorem dX4_seek_84 : decode cX4_seek 84 = .ok (.iconst 2, 1) := by decide +kernel
theorem dX4_seek_85 : decode cX4_seek 85 = .ok (.if_icmp .gt 13, 3) := by decide +kernel
theorem dX4_seek_88 : decode cX4_seek 88 = .ok (.lload 13, 2) := by decide +kernel
theorem dX4_seek_90 : decode cX4_seek 90 = .ok (.lload 11, 2) := by decide +kernel
theorem dX4_seek_92 : decode cX4_seek 92 = .ok (.lrem, 1) := by decide +kernel
theorem dX4_seek_93 : decode cX4_seek 93 = .ok (.lconst 0, 1) := by decide +kernel
theorem dX4_seek_94 : decode cX4_seek 94 = .ok (.lcmp, 1) := by decide +kernel
theorem dX4_seek_95 : decode cX4_seek 95 = .ok (.ifCond .ne 14, 3) := by decide +kernel
theorem dX4_seek_98 : decode cX4_seek 98 = .ok (.aload_n 0, 1) := by decide +kernel
theorem dX4_seek_99 : decode cX4_seek 99 = .ok (.iload_n 1, 1) := by decide +kernel
theorem dX4_seek_100 : decode cX4_seek 100 = .ok (.iload 8, 2) := by decide +kernel
theorem dX4_seek_102 : decode cX4_seek 102 = .ok (.lload 11, 2) := by decide +kernel
theorem dX4_seek_104 : decode cX4_seek 104 = .ok (.lload 13, 2) := by decide +kernel
theorem dX4_seek_106 : decode cX4_seek 106 = .ok (.invokevirtual 109, 3) := by decide +kernel
theorem dX4_seek_109 : decode cX4_seek 109 = .ok (.iinc 8 1, 3) := by decide +kernel
theorem dX4_seek_112 : decode cX4_seek 112 = .ok (.goto (-90), 3) := by decide +kernel
theorem dX4_seek_115 : decode cX4_seek 115 = .ok (.return_, 1) := by decide +kernel
set_option maxRecDepth 20000 in
theorem ggX4_choose_X4_seek : GoodIn wsX4_choose wsX4_seek := goodIn_r _ [27, 28, 29, 30, 31, 32, 26, 3, 33, 34, 35, 7, 36, 12, 37, 38, 39, 40, 0, 1, 2, 4, 5, 6, 8, 9, 10, 11, 13, 14, 15, 16, 17, 18, 19, 20, 21, 22, 23, 24, 25, 41, 42, 43, 44, 45, 46, 47, 48, 49, 50, 51, 52, 53, 54] (by decide +kernel) (by decide +kernel)
set_option maxRecDepth 20000 in
theorem gX4_choose_X4_seek : GoodIn wsX4_choose (wsV RX4 95 RX4 yX4_seek wsX4_seek) := goodIn_app (goodIn_of _ (by decide +kernel)) ggX4_choose_X4_seek
set_option maxRecDepth 20000 in
theorem ggX4_choose_X4_finish : GoodIn wsX4_choose wsX4_finish := goodIn_r _ [11, 12, 13, 14, 15, 16, 7, 17, 1, 2, 18, 19, 20, 21, 22, 23, 24, 25, 26, 41, 42, 43, 44, 45, 46, 47, 48, 49, 50, 51, 52, 53, 54] (by decide +kernel) (by decide +kernel)
set_option maxRecDepth 20000 in
theorem gX4_choose_X4_finish : GoodIn wsX4_choose (wsV RX4 91 RX4 yX4_finish wsX4_finish) := goodIn_app (goodIn_of _ (by decide +kernel)) ggX4_choose_X4_finish
theorem dX4_choose_0 : decode cX4_choose 0 = .ok (.aload_n 0, 1) := by decide +kernel
theorem dX4_choose_1 : decode cX4_choose 1 = .ok (.getfield 76, 3) := by decide +kernel
theorem dX4_choose_4 : decode cX4_choose 4 = .ok (.iload_n 1, 1) := by decide +kernel
theorem dX4_choose_5 : decode cX4_choose 5 = .ok (.isub, 1) := by decide +kernel
theorem dX4_choose_6 : decode cX4_choose 6 = .ok (.istore 7, 2) := by decide +kernel
theorem dX4_choose_8 : decode cX4_choose 8 = .ok (.iload 7, 2) := by decide +kernel
theorem dX4_choose_10 : decode cX4_choose 10 = .ok (.ifCond .lt 13, 3) := by decide +kernel
theorem dX4_choose_13 : decode cX4_choose 13 = .ok (.iload 7, 2) := by decide +kernel
theorem dX4_choose_15 : decode cX4_choose 15 = .ok (.aload_n 0, 1) := by decide +kernel
theorem dX4_choose_16 : decode cX4_choose 16 = .ok (.getfield 22, 3) := by decide +kernel
theorem dX4_choose_19 : decode cX4_choose 19 = .ok (.arraylength, 1) := by decide +kernel
theorem dX4_choose_20 : decode cX4_choose 20 = .ok (.if_icmp .lt 4, 3) := by decide +kernel
theorem dX4_choose_23 : decode cX4_choose 23 = .ok (.return_, 1) := by decide +kernel
theorem dX4_choose_24 : decode cX4_choose 24 = .ok (.aload_n 0, 1) := by decide +kernel
theorem dX4_choose_25 : decode cX4_choose 25 = .ok (.getfield 22, 3) := by decide +kernel
theorem dX4_choose_28 : decode cX4_choose 28 = .ok (.iload 7, 2) := by decide +kernel
theorem dX4_choose_30 : decode cX4_choose 30 = .ok (.aload_n 0, 1) := by decide +kernel
theorem dX4_choose_31 : decode cX4_choose 31 = .ok (.getfield 15, 3) := by decide +kernel
theorem dX4_choose_34 : decode cX4_choose 34 = .ok (.iload_n 2, 1) := by decide +kernel
theorem dX4_choose_35 : decode cX4_choose 35 = .ok (.iaload, 1) := by decide +kernel
theorem dX4_choose_36 : decode cX4_choose 36 = .ok (.iastore, 1) := by decide +kernel
theorem dX4_choose_37 : decode cX4_choose 37 = .ok (.iload_n 1, 1) := by decide +kernel
theorem dX4_choose_38 : decode cX4_choose 38 = .ok (.iconst 2, 1) := by decide +kernel
theorem dX4_choose_39 : decode cX4_choose 39 = .ok (.if_icmp .le 19, 3) := by decide +kernel
theorem dX4_choose_42 : decode cX4_choose 42 = .ok (.aload_n 0, 1) := by decide +kernel
theorem dX4_choose_43 : decode cX4_choose 43 = .ok (.iload_n 1, 1) := by decide +kernel
theorem dX4_choose_44 : decode cX4_choose 44 = .ok (.iconst 1, 1) := by decide +kernel
theorem dX4_choose_45 : decode cX4_choose 45 = .ok (.isub, 1) := by decide +kernel
theorem dX4_choose_46 : decode cX4_choose 46 = .ok (.iload_n 2, 1) := by decide +kernel
theorem dX4_choose_47 : decode cX4_choose 47 = .ok (.iconst 1, 1) := by decide +kernel
theorem dX4_choose_48 : decode cX4_choose 48 = .ok (.iadd, 1) := by decide +kernel
theorem dX4_choose_49 : decode cX4_choose 49 = .ok (.lload_n 3, 1) := by decide +kernel
theorem dX4_choose_50 : decode cX4_choose 50 = .ok (.lload 5, 2) := by decide +kernel
theorem dX4_choose_52 : decode cX4_choose 52 = .ok (.invokevirtual 95, 3) := by decide +kernel
theorem dX4_choose_55 : decode cX4_choose 55 = .ok (.goto 16, 3) := by decide +kernel
theorem dX4_choose_58 : decode cX4_choose 58 = .ok (.aload_n 0, 1) := by decide +kernel
theorem dX4_choose_59 : decode cX4_choose 59 = .ok (.aload_n 0, 1) := by decide +kernel
theorem dX4_choose_60 : decode cX4_choose 60 = .ok (.getfield 15, 3) := by decide +kernel
theorem dX4_choose_63 : decode cX4_choose 63 = .ok (.iload_n 2, 1) := by decide +kernel
theorem dX4_choose_64 : decode cX4_choose 64 = .ok (.iaload, 1) := by decide +kernel
theorem dX4_choose_65 : decode cX4_choose 65 = .ok (.lload_n 3, 1) := by decide +kernel
theorem dX4_choose_66 : decode cX4_choose 66 = .ok (.lload 5, 2) := by decide +kernel
theorem dX4_choose_68 : decode cX4_choose 68 = .ok (.invokevirtual 91, 3) := by decide +kernel
theorem dX4_choose_71 : decode cX4_choose 71 = .ok (.return_, 1) := by decide +kernel
theorem dX4_firstPlace_0 : decode cX4_firstPlace 0 = .ok (.lload_n 2, 1) := by decide +kernel
theorem dX4_firstPlace_1 : decode cX4_firstPlace 1 = .ok (.aload_n 0, 1) := by decide +kernel
theorem dX4_firstPlace_2 : decode cX4_firstPlace 2 = .ok (.getfield 85, 3) := by decide +kernel
theorem dX4_firstPlace_5 : decode cX4_firstPlace 5 = .ok (.i2l, 1) := by decide +kernel
theorem dX4_firstPlace_6 : decode cX4_firstPlace 6 = .ok (.lmul, 1) := by decide +kernel
theorem dX4_firstPlace_7 : decode cX4_firstPlace 7 = .ok (.iload_n 1, 1) := by decide +kernel
theorem dX4_firstPlace_8 : decode cX4_firstPlace 8 = .ok (.iconst 1, 1) := by decide +kernel
theorem dX4_firstPlace_9 : decode cX4_firstPlace 9 = .ok (.isub, 1) := by decide +kernel
theorem dX4_firstPlace_10 : decode cX4_firstPlace 10 = .ok (.i2l, 1) := by decide +kernel
theorem dX4_firstPlace_11 : decode cX4_firstPlace 11 = .ok (.lload 4, 2) := by decide +kernel
theorem dX4_firstPlace_13 : decode cX4_firstPlace 13 = .ok (.lmul, 1) := by decide +kernel
theorem dX4_firstPlace_14 : decode cX4_firstPlace 14 = .ok (.lsub, 1) := by decide +kernel
theorem dX4_firstPlace_15 : decode cX4_firstPlace 15 = .ok (.lstore 6, 2) := by decide +kernel
theorem dX4_firstPlace_17 : decode cX4_firstPlace 17 = .ok (.lload 6, 2) := by decide +kernel
theorem dX4_firstPlace_19 : decode cX4_firstPlace 19 = .ok (.lconst 0, 1) := by decide +kernel
theorem dX4_firstPlace_20 : decode cX4_firstPlace 20 = .ok (.lcmp, 1) := by decide +kernel
theorem dX4_firstPlace_21 : decode cX4_firstPlace 21 = .ok (.ifCond .gt 8, 3) := by decide +kernel
theorem dX4_firstPlace_24 : decode cX4_firstPlace 24 = .ok (.aload_n 0, 1) := by decide +kernel
theorem dX4_firstPlace_25 : decode cX4_firstPlace 25 = .ok (.getfield 73, 3) := by decide +kernel
theorem dX4_firstPlace_28 : decode cX4_firstPlace 28 = .ok (.ireturn, 1) := by decide +kernel
theorem dX4_firstPlace_29 : decode cX4_firstPlace 29 = .ok (.lload 4, 2) := by decide +kernel
theorem dX4_firstPlace_31 : decode cX4_firstPlace 31 = .ok (.aload_n 0, 1) := by decide +kernel
theorem dX4_firstPlace_32 : decode cX4_firstPlace 32 = .ok (.getfield 85, 3) := by decide +kernel
theorem dX4_firstPlace_35 : decode cX4_firstPlace 35 = .ok (.i2l, 1) := by decide +kernel
theorem dX4_firstPlace_36 : decode cX4_firstPlace 36 = .ok (.lmul, 1) := by decide +kernel
theorem dX4_firstPlace_37 : decode cX4_firstPlace 37 = .ok (.lload 6, 2) := by decide +kernel
theorem dX4_firstPlace_39 : decode cX4_firstPlace 39 = .ok (.ladd, 1) := by decide +kernel
theorem dX4_firstPlace_40 : decode cX4_firstPlace 40 = .ok (.lconst 1, 1) := by decide +kernel
theorem dX4_firstPlace_41 : decode cX4_firstPlace 41 = .ok (.lsub, 1) := by decide +kernel
theorem dX4_firstPlace_42 : decode cX4_firstPlace 42 = .ok (.lload 6, 2) := by decide +kernel
theorem dX4_firstPlace_44 : decode cX4_firstPlace 44 = .ok (.ldiv, 1) := by decide +kernel
theorem dX4_firstPlace_45 : decode cX4_firstPlace 45 = .ok (.lstore 8, 2) := by decide +kernel
theorem dX4_firstPlace_47 : decode cX4_firstPlace 47 = .ok (.lload 8, 2) := by decide +kernel
theorem dX4_firstPlace_49 : decode cX4_firstPlace 49 = .ok (.lconst 0, 1) := by decide +kernel
theorem dX4_firstPlace_50 : decode cX4_firstPlace 50 = .ok (.lcmp, 1) := by decide +kernel
theorem dX4_firstPlace_51 : decode cX4_firstPlace 51 = .ok (.ifCond .lt 15, 3) := by decide +kernel
theorem dX4_firstPlace_54 : decode cX4_firstPlace 54 = .ok (.lload 8, 2) := by decide +kernel
theorem dX4_firstPlace_56 : decode cX4_firstPlace 56 = .ok (.aload_n 0, 1) := by decide +kernel
theorem dX4_firstPlace_57 : decode cX4_firstPlace 57 = .ok (.getfield 19, 3) := by decide +kernel
theorem dX4_firstPlace_60 : decode cX4_firstPlace 60 = .ok (.arraylength, 1) := by decide +kernel
theorem dX4_firstPlace_61 : decode cX4_firstPlace 61 = .ok (.i2l, 1) := by decide +kernel
theorem dX4_firstPlace_62 : decode cX4_firstPlace 62 = .ok (.lcmp, 1) := by decide +kernel
theorem dX4_firstPlace_63 : decode cX4_firstPlace 63 = .ok (.ifCond .lt 10, 3) := by decide +kernel
theorem dX4_firstPlace_66 : decode cX4_firstPlace 66 = .ok (.aload_n 0, 1) := by decide +kernel
theorem dX4_firstPlace_67 : decode cX4_firstPlace 67 = .ok (.getfield 73, 3) := by decide +kernel
theorem dX4_firstPlace_70 : decode cX4_firstPlace 70 = .ok (.goto 11, 3) := by decide +kernel
theorem dX4_firstPlace_73 : decode cX4_firstPlace 73 = .ok (.aload_n 0, 1) := by decide +kernel
theorem dX4_firstPlace_74 : decode cX4_firstPlace 74 = .ok (.getfield 19, 3) := by decide +kernel
theorem dX4_firstPlace_77 : decode cX4_firstPlace 77 = .ok (.lload 8, 2) := by decide +kernel
theorem dX4_firstPlace_79 : decode cX4_firstPlace 79 = .ok (.l2i, 1) := by decide +kernel
theorem dX4_firstPlace_80 : decode cX4_firstPlace 80 = .ok (.iaload, 1) := by decide +kernel
theorem dX4_firstPlace_81 : decode cX4_firstPlace 81 = .ok (.ireturn, 1) := by decide +kernel
set_option maxRecDepth 20000 in
theorem ggX4_finish_X4_note : GoodIn wsX4_finish wsX4_note := goodIn_r _ [7, 8, 9, 10, 11, 12, 13, 14, 15, 16, 17, 1, 18, 19, 20, 21, 22, 23, 24, 25, 26, 27, 28, 29, 30, 31, 32] (by decide +kernel) (by decide +kernel)
set_option maxRecDepth 20000 in
theorem gX4_finish_X4_note : GoodIn wsX4_finish (wsV RX4 112 RX4 yX4_note wsX4_note) := goodIn_app (goodIn_of _ (by decide +kernel)) ggX4_finish_X4_note
theorem dX4_finish_0 : decode cX4_finish 0 = .ok (.lload_n 2, 1) := by decide +kernel
theorem dX4_finish_1 : decode cX4_finish 1 = .ok (.lconst 0, 1) := by decide +kernel
theorem dX4_finish_2 : decode cX4_finish 2 = .ok (.lcmp, 1) := by decide +kernel
theorem dX4_finish_3 : decode cX4_finish 3 = .ok (.ifCond .le 12, 3) := by decide +kernel
theorem dX4_finish_6 : decode cX4_finish 6 = .ok (.lload 4, 2) := by decide +kernel
theorem dX4_finish_8 : decode cX4_finish 8 = .ok (.lload_n 2, 1) := by decide +kernel
theorem dX4_finish_9 : decode cX4_finish 9 = .ok (.lrem, 1) := by decide +kernel
theorem dX4_finish_10 : decode cX4_finish 10 = .ok (.lconst 0, 1) := by decide +kernel
theorem dX4_finish_11 : decode cX4_finish 11 = .ok (.lcmp, 1) := by decide +kernel
theorem dX4_finish_12 : decode cX4_finish 12 = .ok (.ifCond .eq 4, 3) := by decide +kernel
theorem dX4_finish_15 : decode cX4_finish 15 = .ok (.return_, 1) := by decide +kernel
theorem dX4_finish_16 : decode cX4_finish 16 = .ok (.lload 4, 2) := by decide +kernel
theorem dX4_finish_18 : decode cX4_finish 18 = .ok (.lload_n 2, 1) := by decide +kernel
theorem dX4_finish_19 : decode cX4_finish 19 = .ok (.ldiv, 1) := by decide +kernel
theorem dX4_finish_20 : decode cX4_finish 20 = .ok (.lstore 6, 2) := by decide +kernel
theorem dX4_finish_22 : decode cX4_finish 22 = .ok (.lload 6, 2) := by decide +kernel
theorem dX4_finish_24 : decode cX4_finish 24 = .ok (.iload_n 1, 1) := by decide +kernel
theorem dX4_finish_25 : decode cX4_finish 25 = .ok (.i2l, 1) := by decide +kernel
theorem dX4_finish_26 : decode cX4_finish 26 = .ok (.lcmp, 1) := by decide +kernel
theorem dX4_finish_27 : decode cX4_finish 27 = .ok (.ifCond .le 37, 3) := by decide +kernel
theorem dX4_finish_30 : decode cX4_finish 30 = .ok (.lload 6, 2) := by decide +kernel
theorem dX4_finish_32 : decode cX4_finish 32 = .ok (.aload_n 0, 1) := by decide +kernel
theorem dX4_finish_33 : decode cX4_finish 33 = .ok (.getfield 85, 3) := by decide +kernel
theorem dX4_finish_36 : decode cX4_finish 36 = .ok (.i2l, 1) := by decide +kernel
theorem dX4_finish_37 : decode cX4_finish 37 = .ok (.lcmp, 1) := by decide +kernel
theorem dX4_finish_38 : decode cX4_finish 38 = .ok (.ifCond .gt 26, 3) := by decide +kernel
theorem dX4_finish_41 : decode cX4_finish 41 = .ok (.lload 6, 2) := by decide +kernel
theorem dX4_finish_43 : decode cX4_finish 43 = .ok (.aload_n 0, 1) := by decide +kernel
theorem dX4_finish_44 : decode cX4_finish 44 = .ok (.getfield 9, 3) := by decide +kernel
theorem dX4_finish_47 : decode cX4_finish 47 = .ok (.arraylength, 1) := by decide +kernel
theorem dX4_finish_48 : decode cX4_finish 48 = .ok (.i2l, 1) := by decide +kernel
theorem dX4_finish_49 : decode cX4_finish 49 = .ok (.lcmp, 1) := by decide +kernel
theorem dX4_finish_50 : decode cX4_finish 50 = .ok (.ifCond .ge 14, 3) := by decide +kernel
theorem dX4_finish_53 : decode cX4_finish 53 = .ok (.aload_n 0, 1) := by decide +kernel
theorem dX4_finish_54 : decode cX4_finish 54 = .ok (.getfield 9, 3) := by decide +kernel
theorem dX4_finish_57 : decode cX4_finish 57 = .ok (.lload 6, 2) := by decide +kernel
theorem dX4_finish_59 : decode cX4_finish 59 = .ok (.l2i, 1) := by decide +kernel
theorem dX4_finish_60 : decode cX4_finish 60 = .ok (.baload, 1) := by decide +kernel
theorem dX4_finish_61 : decode cX4_finish 61 = .ok (.ifCond .ne 4, 3) := by decide +kernel
theorem dX4_finish_64 : decode cX4_finish 64 = .ok (.return_, 1) := by decide +kernel
theorem dX4_finish_65 : decode cX4_finish 65 = .ok (.aload_n 0, 1) := by decide +kernel
theorem dX4_finish_66 : decode cX4_finish 66 = .ok (.lload 6, 2) := by decide +kernel
theorem dX4_finish_68 : decode cX4_finish 68 = .ok (.l2i, 1) := by decide +kernel
theorem dX4_finish_69 : decode cX4_finish 69 = .ok (.invokevirtual 112, 3) := by decide +kernel
theorem dX4_finish_72 : decode cX4_finish 72 = .ok (.return_, 1) := by decide +kernel
theorem dX4_note_0 : decode cX4_note 0 = .ok (.aload_n 0, 1) := by decide +kernel
theorem dX4_note_1 : decode cX4_note 1 = .ok (.getfield 76, 3) := by decide +kernel
theorem dX4_note_4 : decode cX4_note 4 = .ok (.iconst 1, 1) := by decide +kernel
theorem dX4_note_5 : decode cX4_note 5 = .ok (.isub, 1) := by decide +kernel
theorem dX4_note_6 : decode cX4_note 6 = .ok (.istore_n 2, 1) := by decide +kernel
theorem dX4_note_7 : decode cX4_note 7 = .ok (.iload_n 2, 1) := by decide +kernel
theorem dX4_note_8 : decode cX4_note 8 = .ok (.ifCond .lt 12, 3) := by decide +kernel
theorem dX4_note_11 : decode cX4_note 11 = .ok (.iload_n 2, 1) := by decide +kernel
theorem dX4_note_12 : decode cX4_note 12 = .ok (.aload_n 0, 1) := by decide +kernel
theorem dX4_note_13 : decode cX4_note 13 = .ok (.getfield 22, 3) := by decide +kernel
theorem dX4_note_16 : decode cX4_note 16 = .ok (.arraylength, 1) := by decide +kernel
theorem dX4_note_17 : decode cX4_note 17 = .ok (.if_icmp .lt 4, 3) := by decide +kernel
theorem dX4_note_20 : decode cX4_note 20 = .ok (.return_, 1) := by decide +kernel
theorem dX4_note_21 : decode cX4_note 21 = .ok (.aload_n 0, 1) := by decide +kernel
theorem dX4_note_22 : decode cX4_note 22 = .ok (.getfield 22, 3) := by decide +kernel
theorem dX4_note_25 : decode cX4_note 25 = .ok (.iload_n 2, 1) := by decide +kernel
theorem dX4_note_26 : decode cX4_note 26 = .ok (.iload_n 1, 1) := by decide +kernel
theorem dX4_note_27 : decode cX4_note 27 = .ok (.iastore, 1) := by decide +kernel
theorem dX4_note_28 : decode cX4_note 28 = .ok (.aload_n 0, 1) := by decide +kernel
theorem dX4_note_29 : decode cX4_note 29 = .ok (.getfield 59, 3) := by decide +kernel
theorem dX4_note_32 : decode cX4_note 32 = .ok (.aload_n 0, 1) := by decide +kernel
theorem dX4_note_33 : decode cX4_note 33 = .ok (.getfield 79, 3) := by decide +kernel
theorem dX4_note_36 : decode cX4_note 36 = .ok (.if_icmp .ne 7, 3) := by decide +kernel
theorem dX4_note_39 : decode cX4_note 39 = .ok (.iconst 1, 1) := by decide +kernel
theorem dX4_note_40 : decode cX4_note 40 = .ok (.goto 4, 3) := by decide +kernel
theorem dX4_note_43 : decode cX4_note 43 = .ok (.iconst 0, 1) := by decide +kernel
theorem dX4_note_44 : decode cX4_note 44 = .ok (.istore_n 3, 1) := by decide +kernel
theorem dX4_note_45 : decode cX4_note 45 = .ok (.iload_n 3, 1) := by decide +kernel
theorem dX4_note_46 : decode cX4_note 46 = .ok (.ifCond .ne 10, 3) := by decide +kernel
theorem dX4_note_49 : decode cX4_note 49 = .ok (.aload_n 0, 1) := by decide +kernel
theorem dX4_note_50 : decode cX4_note 50 = .ok (.getfield 82, 3) := by decide +kernel
theorem dX4_note_53 : decode cX4_note 53 = .ok (.ifCond .eq 21, 3) := by decide +kernel
theorem dX4_note_56 : decode cX4_note 56 = .ok (.aload_n 0, 1) := by decide +kernel
theorem dX4_note_57 : decode cX4_note 57 = .ok (.getfield 22, 3) := by decide +kernel
theorem dX4_note_60 : decode cX4_note 60 = .ok (.iconst 0, 1) := by decide +kernel
theorem dX4_note_61 : decode cX4_note 61 = .ok (.aload_n 0, 1) := by decide +kernel
theorem dX4_note_62 : decode cX4_note 62 = .ok (.getfield 25, 3) := by decide +kernel
theorem dX4_note_65 : decode cX4_note 65 = .ok (.iconst 0, 1) := by decide +kernel
theorem dX4_note_66 : decode cX4_note 66 = .ok (.aload_n 0, 1) := by decide +kernel
theorem dX4_note_67 : decode cX4_note 67 = .ok (.getfield 22, 3) := by decide +kernel
theorem dX4_note_70 : decode cX4_note 70 = .ok (.arraylength, 1) := by decide +kernel
theorem dX4_note_71 : decode cX4_note 71 = .ok (.invokestatic 116, 3) := by decide +kernel
theorem dX4_note_74 : decode cX4_note 74 = .ok (.aload_n 0, 1) := by decide +kernel
theorem dX4_note_75 : decode cX4_note 75 = .ok (.getfield 82, 3) := by decide +kernel
theorem dX4_note_78 : decode cX4_note 78 = .ok (.ifCond .eq 10, 3) := by decide +kernel
theorem dX4_note_81 : decode cX4_note 81 = .ok (.aload_n 0, 1) := by decide +kernel
theorem dX4_note_82 : decode cX4_note 82 = .ok (.iload_n 1, 1) := by decide +kernel
theorem dX4_note_83 : decode cX4_note 83 = .ok (.iconst 1, 1) := by decide +kernel
theorem dX4_note_84 : decode cX4_note 84 = .ok (.isub, 1) := by decide +kernel
theorem dX4_note_85 : decode cX4_note 85 = .ok (.putfield 85, 3) := by decide +kernel
theorem dX4_note_88 : decode cX4_note 88 = .ok (.aload_n 0, 1) := by decide +kernel
theorem dX4_note_89 : decode cX4_note 89 = .ok (.iload_n 3, 1) := by decide +kernel
theorem dX4_note_90 : decode cX4_note 90 = .ok (.putfield 62, 3) := by decide +kernel
theorem dX4_note_93 : decode cX4_note 93 = .ok (.aload_n 0, 1) := by decide +kernel
theorem dX4_note_94 : decode cX4_note 94 = .ok (.dup, 1) := by decide +kernel
theorem dX4_note_95 : decode cX4_note 95 = .ok (.getfield 59, 3) := by decide +kernel
theorem dX4_note_98 : decode cX4_note 98 = .ok (.iconst 1, 1) := by decide +kernel
theorem dX4_note_99 : decode cX4_note 99 = .ok (.iadd, 1) := by decide +kernel
theorem dX4_note_100 : decode cX4_note 100 = .ok (.putfield 59, 3) := by decide +kernel
theorem dX4_note_103 : decode cX4_note 103 = .ok (.return_, 1) := by decide +kernel
set_option maxRecDepth 20000 in
theorem ggX5_fits_X5_without : GoodIn wsX5_fits wsX5_without := goodIn_r _ [4] (by decide +kernel) (by decide +kernel)
set_option maxRecDepth 20000 in
theorem gX5_fits_X5_without : GoodIn wsX5_fits (va_wsS RX5 9 yX5_without wsX5_without) := goodIn_app (goodIn_of _ (by decide +kernel)) ggX5_fits_X5_without
set_option maxRecDepth 20000 in
theorem ggX5_fits_X5_isPrime : GoodIn wsX5_fits wsX5_isPrime := goodIn_r _ [7] (by decide +kernel) (by decide +kernel)
set_option maxRecDepth 20000 in
theorem gX5_fits_X5_isPrime : GoodIn wsX5_fits (va_wsS RX5 15 yX5_isPrime wsX5_isPrime) := goodIn_app (goodIn_of _ (by decide +kernel)) ggX5_fits_X5_isPrime
set_option maxRecDepth 20000 in
theorem ggX5_fits_X5_isSquare : GoodIn wsX5_fits wsX5_isSquare := goodIn_r _ [10] (by decide +kernel) (by decide +kernel)
set_option maxRecDepth 20000 in
theorem gX5_fits_X5_isSquare : GoodIn wsX5_fits (va_wsS RX5 19 yX5_isSquare wsX5_isSquare) := goodIn_app (goodIn_of _ (by decide +kernel)) ggX5_fits_X5_isSquare
theorem dX5_fits_0 : decode cX5_fits 0 = .ok (.iload_n 1, 1) := by decide +kernel
theorem dX5_fits_1 : decode cX5_fits 1 = .ok (.tableswitch 102 0 5 #[39, 41, 53, 65, 84, 97], 39) := by decide +kernel
theorem dX5_fits_40 : decode cX5_fits 40 = .ok (.iconst 1, 1) := by decide +kernel
theorem dX5_fits_41 : decode cX5_fits 41 = .ok (.ireturn, 1) := by decide +kernel
theorem dX5_fits_42 : decode cX5_fits 42 = .ok (.iload_n 0, 1) := by decide +kernel
theorem dX5_fits_43 : decode cX5_fits 43 = .ok (.iconst 2, 1) := by decide +kernel
theorem dX5_fits_44 : decode cX5_fits 44 = .ok (.irem, 1) := by decide +kernel
theorem dX5_fits_45 : decode cX5_fits 45 = .ok (.ifCond .eq 7, 3) := by decide +kernel
theorem dX5_fits_48 : decode cX5_fits 48 = .ok (.iconst 1, 1) := by decide +kernel
theorem dX5_fits_49 : decode cX5_fits 49 = .ok (.goto 4, 3) := by decide +kernel
theorem dX5_fits_52 : decode cX5_fits 52 = .ok (.iconst 0, 1) := by decide +kernel
theorem dX5_fits_53 : decode cX5_fits 53 = .ok (.ireturn, 1) := by decide +kernel
theorem dX5_fits_54 : decode cX5_fits 54 = .ok (.iload_n 0, 1) := by decide +kernel
theorem dX5_fits_55 : decode cX5_fits 55 = .ok (.iconst 2, 1) := by decide +kernel
theorem dX5_fits_56 : decode cX5_fits 56 = .ok (.irem, 1) := by decide +kernel
theorem dX5_fits_57 : decode cX5_fits 57 = .ok (.ifCond .ne 7, 3) := by decide +kernel
theorem dX5_fits_60 : decode cX5_fits 60 = .ok (.iconst 1, 1) := by decide +kernel
theorem dX5_fits_61 : decode cX5_fits 61 = .ok (.goto 4, 3) := by decide +kernel
theorem dX5_fits_64 : decode cX5_fits 64 = .ok (.iconst 0, 1) := by decide +kernel
theorem dX5_fits_65 : decode cX5_fits 65 = .ok (.ireturn, 1) := by decide +kernel
theorem dX5_fits_66 : decode cX5_fits 66 = .ok (.iload_n 0, 1) := by decide +kernel
theorem dX5_fits_67 : decode cX5_fits 67 = .ok (.iconst 2, 1) := by decide +kernel
theorem dX5_fits_68 : decode cX5_fits 68 = .ok (.invokestatic 9, 3) := by decide +kernel
theorem dX5_fits_71 : decode cX5_fits 71 = .ok (.iconst 3, 1) := by decide +kernel
theorem dX5_fits_72 : decode cX5_fits 72 = .ok (.invokestatic 9, 3) := by decide +kernel
theorem dX5_fits_75 : decode cX5_fits 75 = .ok (.iconst 1, 1) := by decide +kernel
theorem dX5_fits_76 : decode cX5_fits 76 = .ok (.if_icmp .ne 7, 3) := by decide +kernel
theorem dX5_fits_79 : decode cX5_fits 79 = .ok (.iconst 1, 1) := by decide +kernel
theorem dX5_fits_80 : decode cX5_fits 80 = .ok (.goto 4, 3) := by decide +kernel
theorem dX5_fits_83 : decode cX5_fits 83 = .ok (.iconst 0, 1) := by decide +kernel
theorem dX5_fits_84 : decode cX5_fits 84 = .ok (.ireturn, 1) := by decide +kernel
theorem dX5_fits_85 : decode cX5_fits 85 = .ok (.iload_n 0, 1) := by decide +kernel
theorem dX5_fits_86 : decode cX5_fits 86 = .ok (.invokestatic 15, 3) := by decide +kernel
theorem dX5_fits_89 : decode cX5_fits 89 = .ok (.ifCond .ne 7, 3) := by decide +kernel
theorem dX5_fits_92 : decode cX5_fits 92 = .ok (.iconst 1, 1) := by decide +kernel
theorem dX5_fits_93 : decode cX5_fits 93 = .ok (.goto 4, 3) := by decide +kernel
theorem dX5_fits_96 : decode cX5_fits 96 = .ok (.iconst 0, 1) := by decide +kernel
theorem dX5_fits_97 : decode cX5_fits 97 = .ok (.ireturn, 1) := by decide +kernel
theorem dX5_fits_98 : decode cX5_fits 98 = .ok (.iload_n 0, 1) := by decide +kernel
theorem dX5_fits_99 : decode cX5_fits 99 = .ok (.invokestatic 19, 3) := by decide +kernel
theorem dX5_fits_102 : decode cX5_fits 102 = .ok (.ireturn, 1) := by decide +kernel
theorem dX5_fits_103 : decode cX5_fits 103 = .ok (.iconst 0, 1) := by decide +kernel
theorem dX5_fits_104 : decode cX5_fits 104 = .ok (.ireturn, 1) := by decide +kernel
theorem dX5_without_0 : decode cX5_without 0 = .ok (.iload_n 0, 1) := by decide +kernel
theorem dX5_without_1 : decode cX5_without 1 = .ok (.istore_n 2, 1) := by decide +kernel
theorem dX5_without_2 : decode cX5_without 2 = .ok (.iconst 0, 1) := by decide +kernel
theorem dX5_without_3 : decode cX5_without 3 = .ok (.istore_n 3, 1) := by decide +kernel
theorem dX5_without_4 : decode cX5_without 4 = .ok (.iload_n 3, 1) := by decide +kernel
theorem dX5_without_5 : decode cX5_without 5 = .ok (.bipush 120, 2) := by decide +kernel
theorem dX5_without_7 : decode cX5_without 7 = .ok (.if_icmp .ge 24, 3) := by decide +kernel
theorem dX5_without_10 : decode cX5_without 10 = .ok (.iload_n 1, 1) := by decide +kernel
theorem dX5_without_11 : decode cX5_without 11 = .ok (.iconst 1, 1) := by decide +kernel
theorem dX5_without_12 : decode cX5_without 12 = .ok (.if_icmp .le 19, 3) := by decide +kernel
theorem dX5_without_15 : decode cX5_without 15 = .ok (.iload_n 2, 1) := by decide +kernel
theorem dX5_without_16 : decode cX5_without 16 = .ok (.iload_n 1, 1) := by decide +kernel
theorem dX5_without_17 : decode cX5_without 17 = .ok (.irem, 1) := by decide +kernel
theorem dX5_without_18 : decode cX5_without 18 = .ok (.ifCond .ne 13, 3) := by decide +kernel
theorem dX5_without_21 : decode cX5_without 21 = .ok (.iload_n 2, 1) := by decide +kernel
theorem dX5_without_22 : decode cX5_without 22 = .ok (.iload_n 1, 1) := by decide +kernel
theorem dX5_without_23 : decode cX5_without 23 = .ok (.idiv, 1) := by decide +kernel
theorem dX5_without_24 : decode cX5_without 24 = .ok (.istore_n 2, 1) := by decide +kernel
theorem dX5_without_25 : decode cX5_without 25 = .ok (.iinc 3 1, 3) := by decide +kernel
theorem dX5_without_28 : decode cX5_without 28 = .ok (.goto (-24), 3) := by decide +kernel
theorem dX5_without_31 : decode cX5_without 31 = .ok (.iload_n 2, 1) := by decide +kernel
theorem dX5_without_32 : decode cX5_without 32 = .ok (.ireturn, 1) := by decide +kernel
theorem dX5_isPrime_0 : decode cX5_isPrime 0 = .ok (.iconst 2, 1) := by decide +kernel
theorem dX5_isPrime_1 : decode cX5_isPrime 1 = .ok (.istore_n 1, 1) := by decide +kernel
theorem dX5_isPrime_2 : decode cX5_isPrime 2 = .ok (.iload_n 1, 1) := by decide +kernel
theorem dX5_isPrime_3 : decode cX5_isPrime 3 = .ok (.iload_n 1, 1) := by decide +kernel
theorem dX5_isPrime_4 : decode cX5_isPrime 4 = .ok (.imul, 1) := by decide +kernel
theorem dX5_isPrime_5 : decode cX5_isPrime 5 = .ok (.iload_n 0, 1) := by decide +kernel
theorem dX5_isPrime_6 : decode cX5_isPrime 6 = .ok (.if_icmp .gt 17, 3) := by decide +kernel
theorem dX5_isPrime_9 : decode cX5_isPrime 9 = .ok (.iload_n 0, 1) := by decide +kernel
theorem dX5_isPrime_10 : decode cX5_isPrime 10 = .ok (.iload_n 1, 1) := by decide +kernel
theorem dX5_isPrime_11 : decode cX5_isPrime 11 = .ok (.irem, 1) := by decide +kernel
theorem dX5_isPrime_12 : decode cX5_isPrime 12 = .ok (.ifCond .ne 5, 3) := by decide +kernel
theorem dX5_isPrime_15 : decode cX5_isPrime 15 = .ok (.iconst 0, 1) := by decide +kernel
theorem dX5_isPrime_16 : decode cX5_isPrime 16 = .ok (.ireturn, 1) := by decide +kernel
theorem dX5_isPrime_17 : decode cX5_isPrime 17 = .ok (.iinc 1 1, 3) := by decide +kernel
theorem dX5_isPrime_20 : decode cX5_isPrime 20 = .ok (.goto (-18), 3) := by decide +kernel
theorem dX5_isPrime_23 : decode cX5_isPrime 23 = .ok (.iload_n 0, 1) := by decide +kernel
theorem dX5_isPrime_24 : decode cX5_isPrime 24 = .ok (.iconst 2, 1) := by decide +kernel
theorem dX5_isPrime_25 : decode cX5_isPrime 25 = .ok (.if_icmp .lt 7, 3) := by decide +kernel
theorem dX5_isPrime_28 : decode cX5_isPrime 28 = .ok (.iconst 1, 1) := by decide +kernel
theorem dX5_isPrime_29 : decode cX5_isPrime 29 = .ok (.goto 4, 3) := by decide +kernel
theorem dX5_isPrime_32 : decode cX5_isPrime 32 = .ok (.iconst 0, 1) := by decide +kernel
theorem dX5_isPrime_33 : decode cX5_isPrime 33 = .ok (.ireturn, 1) := by decide +kernel
theorem dX5_isSquare_0 : decode cX5_isSquare 0 = .ok (.iconst 1, 1) := by decide +kernel
theorem dX5_isSquare_1 : decode cX5_isSquare 1 = .ok (.istore_n 1, 1) := by decide +kernel
theorem dX5_isSquare_2 : decode cX5_isSquare 2 = .ok (.iload_n 1, 1) := by decide +kernel
theorem dX5_isSquare_3 : decode cX5_isSquare 3 = .ok (.iload_n 1, 1) := by decide +kernel
theorem dX5_isSquare_4 : decode cX5_isSquare 4 = .ok (.imul, 1) := by decide +kernel
theorem dX5_isSquare_5 : decode cX5_isSquare 5 = .ok (.iload_n 0, 1) := by decide +kernel
theorem dX5_isSquare_6 : decode cX5_isSquare 6 = .ok (.if_icmp .gt 18, 3) := by decide +kernel
theorem dX5_isSquare_9 : decode cX5_isSquare 9 = .ok (.iload_n 1, 1) := by decide +kernel
theorem dX5_isSquare_10 : decode cX5_isSquare 10 = .ok (.iload_n 1, 1) := by decide +kernel
theorem dX5_isSquare_11 : decode cX5_isSquare 11 = .ok (.imul, 1) := by decide +kernel
theorem dX5_isSquare_12 : decode cX5_isSquare 12 = .ok (.iload_n 0, 1) := by decide +kernel
theorem dX5_isSquare_13 : decode cX5_isSquare 13 = .ok (.if_icmp .ne 5, 3) := by decide +kernel
theorem dX5_isSquare_16 : decode cX5_isSquare 16 = .ok (.iconst 1, 1) := by decide +kernel
theorem dX5_isSquare_17 : decode cX5_isSquare 17 = .ok (.ireturn, 1) := by decide +kernel
theorem dX5_isSquare_18 : decode cX5_isSquare 18 = .ok (.iinc 1 1, 3) := by decide +kernel
theorem dX5_isSquare_21 : decode cX5_isSquare 21 = .ok (.goto (-19), 3) := by decide +kernel
theorem dX5_isSquare_24 : decode cX5_isSquare 24 = .ok (.iconst 0, 1) := by decide +kernel
theorem dX5_isSquare_25 : decode cX5_isSquare 25 = .ok (.ireturn, 1) := by decide +kernel
set_option maxRecDepth 20000 in
theorem ggX6_init_X4_init : GoodIn wsX6_init wsX4_init := goodIn_r _ [23, 24, 2, 3, 4, 25, 26, 27, 28, 29, 30, 31, 32, 33, 34, 35, 36, 37, 38, 39, 40, 71, 72, 73, 74, 75, 76, 77, 78, 79, 80, 81, 82, 83, 84, 98, 99] (by decide +kernel) (by decide +kernel)
set_option maxRecDepth 20000 in
theorem gX6_init_X4_init_n15 : GoodIn wsX6_init (wsX4_init) := ggX6_init_X4_init
set_option maxRecDepth 20000 in
theorem ggX6_init_X2_init : GoodIn wsX6_init wsX2_init := goodIn_r _ [43, 44, 2, 3, 26, 45, 46, 47, 48, 49, 32, 33, 50, 51, 36, 37, 38, 39, 40, 85, 86, 87, 88, 89, 98, 99] (by decide +kernel) (by decide +kernel)
set_option maxRecDepth 20000 in
theorem gX6_init_X2_init : GoodIn wsX6_init (wsX2_init) := ggX6_init_X2_init
set_option maxRecDepth 20000 in
theorem ggX6_init_X3_init : GoodIn wsX6_init wsX3_init := goodIn_r _ [53, 54, 2, 3, 26, 55, 56, 32, 33, 57, 58, 36, 37, 38, 39, 40, 90, 91, 92, 98, 99] (by decide +kernel) (by decide +kernel)
set_option maxRecDepth 20000 in
theorem gX6_init_X3_init_n29 : GoodIn wsX6_init (wsX3_init) := ggX6_init_X3_init
set_option maxRecDepth 20000 in
theorem ggX6_init_X0_init : GoodIn wsX6_init wsX0_init := goodIn_r _ [60, 61, 2, 3, 26, 62, 63, 93, 94, 95, 96, 97] (by decide +kernel) (by decide +kernel)
set_option maxRecDepth 20000 in
theorem gX6_init_X0_init_n36 : GoodIn wsX6_init (wsX0_init) := ggX6_init_X0_init
theorem dX6_init_0 : decode cX6_init 0 = .ok (.aload_n 0, 1) := by decide +kernel
theorem dX6_init_1 : decode cX6_init 1 = .ok (.invokespecial 1, 3) := by decide +kernel
theorem dX6_init_4 : decode cX6_init 4 = .ok (.aload_n 0, 1) := by decide +kernel
theorem dX6_init_5 : decode cX6_init 5 = .ok (.bipush 121, 2) := by decide +kernel
theorem dX6_init_7 : decode cX6_init 7 = .ok (.newarray .boolean, 2) := by decide +kernel
theorem dX6_init_9 : decode cX6_init 9 = .ok (.putfield 9, 3) := by decide +kernel
theorem dX6_init_12 : decode cX6_init 12 = .ok (.aload_n 0, 1) := by decide +kernel
theorem dX6_init_13 : decode cX6_init 13 = .ok (.new 13, 3) := by decide +kernel
theorem dX6_init_16 : decode cX6_init 16 = .ok (.dup, 1) := by decide +kernel
theorem dX6_init_17 : decode cX6_init 17 = .ok (.invokespecial 15, 3) := by decide +kernel
theorem dX6_init_20 : decode cX6_init 20 = .ok (.putfield 16, 3) := by decide +kernel
theorem dX6_init_23 : decode cX6_init 23 = .ok (.aload_n 0, 1) := by decide +kernel
theorem dX6_init_24 : decode cX6_init 24 = .ok (.new 20, 3) := by decide +kernel
theorem dX6_init_27 : decode cX6_init 27 = .ok (.dup, 1) := by decide +kernel
theorem dX6_init_28 : decode cX6_init 28 = .ok (.invokespecial 22, 3) := by decide +kernel
theorem dX6_init_31 : decode cX6_init 31 = .ok (.putfield 23, 3) := by decide +kernel
theorem dX6_init_34 : decode cX6_init 34 = .ok (.aload_n 0, 1) := by decide +kernel
theorem dX6_init_35 : decode cX6_init 35 = .ok (.new 27, 3) := by decide +kernel
theorem dX6_init_38 : decode cX6_init 38 = .ok (.dup, 1) := by decide +kernel
theorem dX6_init_39 : decode cX6_init 39 = .ok (.invokespecial 29, 3) := by decide +kernel
theorem dX6_init_42 : decode cX6_init 42 = .ok (.putfield 30, 3) := by decide +kernel
theorem dX6_init_45 : decode cX6_init 45 = .ok (.aload_n 0, 1) := by decide +kernel
theorem dX6_init_46 : decode cX6_init 46 = .ok (.new 34, 3) := by decide +kernel
theorem dX6_init_49 : decode cX6_init 49 = .ok (.dup, 1) := by decide +kernel
theorem dX6_init_50 : decode cX6_init 50 = .ok (.invokespecial 36, 3) := by decide +kernel
theorem dX6_init_53 : decode cX6_init 53 = .ok (.putfield 37, 3) := by decide +kernel
theorem dX6_init_56 : decode cX6_init 56 = .ok (.return_, 1) := by decide +kernel
set_option maxRecDepth 20000 in
theorem ggX6_bar_X6_isRowNumber : GoodIn wsX6_bar wsX6_isRowNumber := goodIn_r _ [5] (by decide +kernel) (by decide +kernel)
set_option maxRecDepth 20000 in
theorem gX6_bar_X6_isRowNumber : GoodIn wsX6_bar (va_wsS RX6 41 yX6_isRowNumber wsX6_isRowNumber) := goodIn_app (goodIn_of _ (by decide +kernel)) ggX6_bar_X6_isRowNumber
set_option maxRecDepth 20000 in
theorem ggX6_bar_X6_asInt : GoodIn wsX6_bar wsX6_asInt := goodIn_r _ [8] (by decide +kernel) (by decide +kernel)
set_option maxRecDepth 20000 in
theorem gX6_bar_X6_asInt : GoodIn wsX6_bar (va_wsS RX6 45 yX6_asInt wsX6_asInt) := goodIn_app (goodIn_of _ (by decide +kernel)) ggX6_bar_X6_asInt
theorem dX6_bar_0 : decode cX6_bar 0 = .ok (.iload_n 1, 1) := by decide +kernel
theorem dX6_bar_1 : decode cX6_bar 1 = .ok (.invokestatic 41, 3) := by decide +kernel
theorem dX6_bar_4 : decode cX6_bar 4 = .ok (.ifCond .ne 6, 3) := by decide +kernel
theorem dX6_bar_7 : decode cX6_bar 7 = .ok (.bipush (-102), 2) := by decide +kernel
theorem dX6_bar_9 : decode cX6_bar 9 = .ok (.ireturn, 1) := by decide +kernel
theorem dX6_bar_10 : decode cX6_bar 10 = .ok (.aload_n 0, 1) := by decide +kernel
theorem dX6_bar_11 : decode cX6_bar 11 = .ok (.getfield 9, 3) := by decide +kernel
theorem dX6_bar_14 : decode cX6_bar 14 = .ok (.iload_n 1, 1) := by decide +kernel
theorem dX6_bar_15 : decode cX6_bar 15 = .ok (.baload, 1) := by decide +kernel
theorem dX6_bar_16 : decode cX6_bar 16 = .ok (.invokestatic 45, 3) := by decide +kernel
theorem dX6_bar_19 : decode cX6_bar 19 = .ok (.istore_n 3, 1) := by decide +kernel
theorem dX6_bar_20 : decode cX6_bar 20 = .ok (.aload_n 0, 1) := by decide +kernel
theorem dX6_bar_21 : decode cX6_bar 21 = .ok (.getfield 9, 3) := by decide +kernel
theorem dX6_bar_24 : decode cX6_bar 24 = .ok (.iload_n 1, 1) := by decide +kernel
theorem dX6_bar_25 : decode cX6_bar 25 = .ok (.iload_n 2, 1) := by decide +kernel
theorem dX6_bar_26 : decode cX6_bar 26 = .ok (.bastore, 1) := by decide +kernel
theorem dX6_bar_27 : decode cX6_bar 27 = .ok (.iload_n 3, 1) := by decide +kernel
theorem dX6_bar_28 : decode cX6_bar 28 = .ok (.ireturn, 1) := by decide +kernel
set_option maxRecDepth 20000 in
theorem ggX6_isOf_X6_isRowNumber : GoodIn wsX6_isOf wsX6_isRowNumber := goodIn_r _ [5] (by decide +kernel) (by decide +kernel)
set_option maxRecDepth 20000 in
theorem gX6_isOf_X6_isRowNumber : GoodIn wsX6_isOf (va_wsS RX6 41 yX6_isRowNumber wsX6_isRowNumber) := goodIn_app (goodIn_of _ (by decide +kernel)) ggX6_isOf_X6_isRowNumber
set_option maxRecDepth 20000 in
theorem ggX6_isOf_X6_isSort : GoodIn wsX6_isOf wsX6_isSort := goodIn_r _ [8] (by decide +kernel) (by decide +kernel)
set_option maxRecDepth 20000 in
theorem gX6_isOf_X6_isSort : GoodIn wsX6_isOf (va_wsS RX6 49 yX6_isSort wsX6_isSort) := goodIn_app (goodIn_of _ (by decide +kernel)) ggX6_isOf_X6_isSort
set_option maxRecDepth 20000 in
theorem ggX6_isOf_X5_fits : GoodIn wsX6_isOf wsX5_fits := goodIn_r _ [12, 13, 14, 11, 15, 16, 17, 18, 19, 20, 21] (by decide +kernel) (by decide +kernel)
set_option maxRecDepth 20000 in
theorem gX6_isOf_X5_fits : GoodIn wsX6_isOf (va_wsS RX6 52 yX5_fits wsX5_fits) := goodIn_app (goodIn_of _ (by decide +kernel)) ggX6_isOf_X5_fits
set_option maxRecDepth 20000 in
theorem ggX6_isOf_X6_asInt : GoodIn wsX6_isOf wsX6_asInt := goodIn_r _ [24] (by decide +kernel) (by decide +kernel)
set_option maxRecDepth 20000 in
theorem gX6_isOf_X6_asInt : GoodIn wsX6_isOf (va_wsS RX6 45 yX6_asInt wsX6_asInt) := goodIn_app (goodIn_of _ (by decide +kernel)) ggX6_isOf_X6_asInt
theorem dX6_isOf_0 : decode cX6_isOf 0 = .ok (.iload_n 1, 1) := by decide +kernel
theorem dX6_isOf_1 : decode cX6_isOf 1 = .ok (.invokestatic 41, 3) := by decide +kernel
theorem dX6_isOf_4 : decode cX6_isOf 4 = .ok (.ifCond .eq 10, 3) := by decide +kernel
theorem dX6_isOf_7 : decode cX6_isOf 7 = .ok (.iload_n 2, 1) := by decide +kernel
theorem dX6_isOf_8 : decode cX6_isOf 8 = .ok (.invokestatic 49, 3) := by decide +kernel
theorem dX6_isOf_11 : decode cX6_isOf 11 = .ok (.ifCond .ne 6, 3) := by decide +kernel
theorem dX6_isOf_14 : decode cX6_isOf 14 = .ok (.bipush (-102), 2) := by decide +kernel
theorem dX6_isOf_16 : decode cX6_isOf 16 = .ok (.ireturn, 1) := by decide +kernel
theorem dX6_isOf_17 : decode cX6_isOf 17 = .ok (.aload_n 0, 1) := by decide +kernel
theorem dX6_isOf_18 : decode cX6_isOf 18 = .ok (.getfield 9, 3) := by decide +kernel
theorem dX6_isOf_21 : decode cX6_isOf 21 = .ok (.iload_n 1, 1) := by decide +kernel
theorem dX6_isOf_22 : decode cX6_isOf 22 = .ok (.baload, 1) := by decide +kernel
theorem dX6_isOf_23 : decode cX6_isOf 23 = .ok (.ifCond .ne 15, 3) := by decide +kernel
theorem dX6_isOf_26 : decode cX6_isOf 26 = .ok (.iload_n 1, 1) := by decide +kernel
theorem dX6_isOf_27 : decode cX6_isOf 27 = .ok (.iload_n 2, 1) := by decide +kernel
theorem dX6_isOf_28 : decode cX6_isOf 28 = .ok (.invokestatic 52, 3) := by decide +kernel
theorem dX6_isOf_31 : decode cX6_isOf 31 = .ok (.ifCond .eq 7, 3) := by decide +kernel
theorem dX6_isOf_34 : decode cX6_isOf 34 = .ok (.iconst 1, 1) := by decide +kernel
theorem dX6_isOf_35 : decode cX6_isOf 35 = .ok (.goto 4, 3) := by decide +kernel
theorem dX6_isOf_38 : decode cX6_isOf 38 = .ok (.iconst 0, 1) := by decide +kernel
theorem dX6_isOf_39 : decode cX6_isOf 39 = .ok (.invokestatic 45, 3) := by decide +kernel
theorem dX6_isOf_42 : decode cX6_isOf 42 = .ok (.ireturn, 1) := by decide +kernel
set_option maxRecDepth 20000 in
theorem ggX6_fewest_X6_rowRefusal : GoodIn wsX6_fewest wsX6_rowRefusal := goodIn_r _ [6, 7, 8, 9, 5, 10, 11, 12, 13, 14, 15, 16, 111, 112, 113, 114, 115, 116, 117] (by decide +kernel) (by decide +kernel)
set_option maxRecDepth 20000 in
theorem gX6_fewest_X6_rowRefusal : GoodIn wsX6_fewest (wsV RX6 58 RX6 yX6_rowRefusal wsX6_rowRefusal) := goodIn_app (goodIn_of _ (by decide +kernel)) ggX6_fewest_X6_rowRefusal
set_option maxRecDepth 20000 in
theorem ggX6_fewest_X6_beginRows : GoodIn wsX6_fewest wsX6_beginRows := goodIn_r _ [20, 7, 1, 21, 22, 23, 24, 25, 26, 27, 28, 29, 30, 31, 32, 33, 34, 35, 36, 37, 38, 39, 40, 41, 42, 43, 44, 45, 46, 47, 48, 49, 50, 51, 52, 53, 54, 55, 56, 57, 58, 59, 60, 61, 62, 63, 64, 65, 111, 112, 113, 114, 115, 116, 117, 118, 119, 120, 121, 122, 123, 124, 125, 126, 127, 128, 129, 130, 131, 132, 133] (by decide +kernel) (by decide +kernel)
set_option maxRecDepth 20000 in
theorem gX6_fewest_X6_beginRows : GoodIn wsX6_fewest (wsV RX6 62 RX6 yX6_beginRows wsX6_beginRows) := goodIn_app (goodIn_of _ (by decide +kernel)) ggX6_fewest_X6_beginRows
set_option maxRecDepth 20000 in
theorem ggX6_fewest_X4_findRow : GoodIn wsX6_fewest wsX4_findRow := goodIn_r _ [69, 70, 71, 72, 73, 25, 74, 75, 76, 77, 78, 79, 28, 80, 27, 81, 58, 82, 83, 84, 85, 29, 86, 87, 88, 89, 90, 91, 92, 93, 94, 95, 96, 97, 98, 63, 99, 100, 101, 102, 65, 103, 104, 105, 106, 64, 107, 108, 109, 110, 118, 119, 120, 121, 122, 123, 124, 125, 126, 127, 128, 129, 130, 131, 132, 133] (by decide +kernel) (by decide +kernel)
set_option maxRecDepth 20000 in
theorem gX6_fewest_X4_findRow : GoodIn wsX6_fewest (wsV RX6 66 RX4 yX4_findRow wsX4_findRow) := goodIn_app (goodIn_of _ (by decide +kernel)) ggX6_fewest_X4_findRow
theorem dX6_fewest_0 : decode cX6_fewest 0 = .ok (.aload_n 0, 1) := by decide +kernel
theorem dX6_fewest_1 : decode cX6_fewest 1 = .ok (.iload_n 1, 1) := by decide +kernel
theorem dX6_fewest_2 : decode cX6_fewest 2 = .ok (.iload_n 2, 1) := by decide +kernel
theorem dX6_fewest_3 : decode cX6_fewest 3 = .ok (.iconst 1, 1) := by decide +kernel
theorem dX6_fewest_4 : decode cX6_fewest 4 = .ok (.iload_n 3, 1) := by decide +kernel
theorem dX6_fewest_5 : decode cX6_fewest 5 = .ok (.iload 4, 2) := by decide +kernel
theorem dX6_fewest_7 : decode cX6_fewest 7 = .ok (.invokevirtual 58, 3) := by decide +kernel
theorem dX6_fewest_10 : decode cX6_fewest 10 = .ok (.istore 5, 2) := by decide +kernel
theorem dX6_fewest_12 : decode cX6_fewest 12 = .ok (.iload 5, 2) := by decide +kernel
theorem dX6_fewest_14 : decode cX6_fewest 14 = .ok (.ifCond .eq 6, 3) := by decide +kernel
theorem dX6_fewest_17 : decode cX6_fewest 17 = .ok (.iload 5, 2) := by decide +kernel
theorem dX6_fewest_19 : decode cX6_fewest 19 = .ok (.ireturn, 1) := by decide +kernel
theorem dX6_fewest_20 : decode cX6_fewest 20 = .ok (.aload_n 0, 1) := by decide +kernel
theorem dX6_fewest_21 : decode cX6_fewest 21 = .ok (.iload_n 1, 1) := by decide +kernel
theorem dX6_fewest_22 : decode cX6_fewest 22 = .ok (.iload_n 2, 1) := by decide +kernel
theorem dX6_fewest_23 : decode cX6_fewest 23 = .ok (.iload_n 3, 1) := by decide +kernel
theorem dX6_fewest_24 : decode cX6_fewest 24 = .ok (.iload 4, 2) := by decide +kernel
theorem dX6_fewest_26 : decode cX6_fewest 26 = .ok (.invokevirtual 62, 3) := by decide +kernel
theorem dX6_fewest_29 : decode cX6_fewest 29 = .ok (.iconst 1, 1) := by decide +kernel
theorem dX6_fewest_30 : decode cX6_fewest 30 = .ok (.istore 6, 2) := by decide +kernel
theorem dX6_fewest_32 : decode cX6_fewest 32 = .ok (.iload 6, 2) := by decide +kernel
theorem dX6_fewest_34 : decode cX6_fewest 34 = .ok (.iconst 5, 1) := by decide +kernel
theorem dX6_fewest_35 : decode cX6_fewest 35 = .ok (.if_icmp .gt 25, 3) := by decide +kernel
theorem dX6_fewest_38 : decode cX6_fewest 38 = .ok (.aload_n 0, 1) := by decide +kernel
theorem dX6_fewest_39 : decode cX6_fewest 39 = .ok (.getfield 16, 3) := by decide +kernel
theorem dX6_fewest_42 : decode cX6_fewest 42 = .ok (.iload 6, 2) := by decide +kernel
theorem dX6_fewest_44 : decode cX6_fewest 44 = .ok (.iconst 0, 1) := by decide +kernel
theorem dX6_fewest_45 : decode cX6_fewest 45 = .ok (.invokevirtual 66, 3) := by decide +kernel
theorem dX6_fewest_48 : decode cX6_fewest 48 = .ok (.ifCond .eq 6, 3) := by decide +kernel
theorem dX6_fewest_51 : decode cX6_fewest 51 = .ok (.iload 6, 2) := by decide +kernel
theorem dX6_fewest_53 : decode cX6_fewest 53 = .ok (.ireturn, 1) := by decide +kernel
theorem dX6_fewest_54 : decode cX6_fewest 54 = .ok (.iinc 6 1, 3) := by decide +kernel
theorem dX6_fewest_57 : decode cX6_fewest 57 = .ok (.goto (-25), 3) := by decide +kernel
theorem dX6_fewest_60 : decode cX6_fewest 60 = .ok (.iconst (-1), 1) := by decide +kernel
theorem dX6_fewest_61 : decode cX6_fewest 61 = .ok (.ireturn, 1) := by decide +kernel
set_option maxRecDepth 20000 in
theorem ggX6_ways_X6_rowRefusal : GoodIn wsX6_ways wsX6_rowRefusal := goodIn_r _ [6, 7, 8, 9, 5, 10, 11, 12, 13, 14, 15, 16, 111, 112, 113, 114, 115, 116, 117] (by decide +kernel) (by decide +kernel)
set_option maxRecDepth 20000 in
theorem gX6_ways_X6_rowRefusal : GoodIn wsX6_ways (wsV RX6 58 RX6 yX6_rowRefusal wsX6_rowRefusal) := goodIn_app (goodIn_of _ (by decide +kernel)) ggX6_ways_X6_rowRefusal
set_option maxRecDepth 20000 in
theorem ggX6_ways_X6_beginRows : GoodIn wsX6_ways wsX6_beginRows := goodIn_r _ [20, 7, 1, 21, 22, 23, 24, 25, 26, 27, 28, 29, 30, 31, 32, 33, 34, 35, 36, 37, 38, 39, 40, 41, 42, 43, 44, 45, 46, 47, 48, 49, 50, 51, 52, 53, 54, 55, 56, 57, 58, 59, 60, 61, 62, 63, 64, 65, 111, 112, 113, 114, 115, 116, 117, 118, 119, 120, 121, 122, 123, 124, 125, 126, 127, 128, 129, 130, 131, 132, 133] (by decide +kernel) (by decide +kernel)
set_option maxRecDepth 20000 in
theorem gX6_ways_X6_beginRows : GoodIn wsX6_ways (wsV RX6 62 RX6 yX6_beginRows wsX6_beginRows) := goodIn_app (goodIn_of _ (by decide +kernel)) ggX6_ways_X6_beginRows
set_option maxRecDepth 20000 in
theorem ggX6_ways_X4_countRows : GoodIn wsX6_ways wsX4_countRows := goodIn_r _ [69, 70, 71, 72, 73, 25, 74, 75, 76, 77, 78, 79, 28, 80, 27, 81, 58, 82, 83, 84, 85, 29, 86, 87, 88, 89, 90, 91, 92, 93, 94, 95, 96, 97, 98, 63, 99, 100, 101, 102, 65, 103, 104, 105, 106, 64, 107, 108, 109, 110, 118, 119, 120, 121, 122, 123, 124, 125, 126, 127, 128, 129, 130, 131, 132, 133] (by decide +kernel) (by decide +kernel)
set_option maxRecDepth 20000 in
theorem gX6_ways_X4_countRows : GoodIn wsX6_ways (wsV RX6 69 RX4 yX4_countRows wsX4_countRows) := goodIn_app (goodIn_of _ (by decide +kernel)) ggX6_ways_X4_countRows
theorem dX6_ways_0 : decode cX6_ways 0 = .ok (.aload_n 0, 1) := by decide +kernel
theorem dX6_ways_1 : decode cX6_ways 1 = .ok (.iload_n 1, 1) := by decide +kernel
theorem dX6_ways_2 : decode cX6_ways 2 = .ok (.iload_n 2, 1) := by decide +kernel
theorem dX6_ways_3 : decode cX6_ways 3 = .ok (.iload_n 3, 1) := by decide +kernel
theorem dX6_ways_4 : decode cX6_ways 4 = .ok (.iload 4, 2) := by decide +kernel
theorem dX6_ways_6 : decode cX6_ways 6 = .ok (.iload 5, 2) := by decide +kernel
theorem dX6_ways_8 : decode cX6_ways 8 = .ok (.invokevirtual 58, 3) := by decide +kernel
theorem dX6_ways_11 : decode cX6_ways 11 = .ok (.istore 6, 2) := by decide +kernel
theorem dX6_ways_13 : decode cX6_ways 13 = .ok (.iload 6, 2) := by decide +kernel
theorem dX6_ways_15 : decode cX6_ways 15 = .ok (.ifCond .eq 6, 3) := by decide +kernel
theorem dX6_ways_18 : decode cX6_ways 18 = .ok (.iload 6, 2) := by decide +kernel
theorem dX6_ways_20 : decode cX6_ways 20 = .ok (.ireturn, 1) := by decide +kernel
theorem dX6_ways_21 : decode cX6_ways 21 = .ok (.aload_n 0, 1) := by decide +kernel
theorem dX6_ways_22 : decode cX6_ways 22 = .ok (.iload_n 1, 1) := by decide +kernel
theorem dX6_ways_23 : decode cX6_ways 23 = .ok (.iload_n 2, 1) := by decide +kernel
theorem dX6_ways_24 : decode cX6_ways 24 = .ok (.iload 4, 2) := by decide +kernel
theorem dX6_ways_26 : decode cX6_ways 26 = .ok (.iload 5, 2) := by decide +kernel
theorem dX6_ways_28 : decode cX6_ways 28 = .ok (.invokevirtual 62, 3) := by decide +kernel
theorem dX6_ways_31 : decode cX6_ways 31 = .ok (.aload_n 0, 1) := by decide +kernel
theorem dX6_ways_32 : decode cX6_ways 32 = .ok (.getfield 16, 3) := by decide +kernel
theorem dX6_ways_35 : decode cX6_ways 35 = .ok (.iload_n 3, 1) := by decide +kernel
theorem dX6_ways_36 : decode cX6_ways 36 = .ok (.invokevirtual 69, 3) := by decide +kernel
theorem dX6_ways_39 : decode cX6_ways 39 = .ok (.ireturn, 1) := by decide +kernel
set_option maxRecDepth 20000 in
theorem ggX6_take_X6_rowRefusal : GoodIn wsX6_take wsX6_rowRefusal := goodIn_r _ [6, 7, 8, 9, 5, 10, 11, 12, 13, 14, 15, 16, 135, 136, 137, 138, 139, 140, 141] (by decide +kernel) (by decide +kernel)
set_option maxRecDepth 20000 in
theorem gX6_take_X6_rowRefusal : GoodIn wsX6_take (wsV RX6 58 RX6 yX6_rowRefusal wsX6_rowRefusal) := goodIn_app (goodIn_of _ (by decide +kernel)) ggX6_take_X6_rowRefusal
set_option maxRecDepth 20000 in
theorem ggX6_take_X6_beginRows : GoodIn wsX6_take wsX6_beginRows := goodIn_r _ [20, 7, 1, 21, 22, 23, 24, 25, 26, 27, 28, 29, 30, 31, 32, 33, 34, 35, 36, 37, 38, 39, 40, 41, 42, 43, 44, 45, 46, 47, 48, 49, 50, 51, 52, 53, 54, 55, 56, 57, 58, 59, 60, 61, 62, 63, 64, 65, 135, 136, 137, 138, 139, 140, 141, 142, 143, 144, 145, 146, 147, 148, 149, 150, 151, 152, 153, 154, 155, 156, 157] (by decide +kernel) (by decide +kernel)
set_option maxRecDepth 20000 in
theorem gX6_take_X6_beginRows : GoodIn wsX6_take (wsV RX6 62 RX6 yX6_beginRows wsX6_beginRows) := goodIn_app (goodIn_of _ (by decide +kernel)) ggX6_take_X6_beginRows
set_option maxRecDepth 20000 in
theorem ggX6_take_X4_findRow : GoodIn wsX6_take wsX4_findRow := goodIn_r _ [69, 70, 71, 72, 73, 25, 74, 75, 76, 77, 78, 79, 28, 80, 27, 81, 58, 82, 83, 84, 85, 29, 86, 87, 88, 89, 90, 91, 92, 93, 94, 95, 96, 97, 98, 63, 99, 100, 101, 102, 65, 103, 104, 105, 106, 64, 107, 108, 109, 110, 142, 143, 144, 145, 146, 147, 148, 149, 150, 151, 152, 153, 154, 155, 156, 157] (by decide +kernel) (by decide +kernel)
set_option maxRecDepth 20000 in
theorem gX6_take_X4_findRow : GoodIn wsX6_take (wsV RX6 66 RX4 yX4_findRow wsX4_findRow) := goodIn_app (goodIn_of _ (by decide +kernel)) ggX6_take_X4_findRow
set_option maxRecDepth 20000 in
theorem ggX6_take_X6_holdFoundRow : GoodIn wsX6_take wsX6_holdFoundRow := goodIn_r _ [114, 115, 1, 116, 117, 118, 119, 120, 121, 122, 123, 124, 25, 125, 90, 126, 127, 128, 129, 130, 131, 132, 133, 134, 135, 136, 137, 138, 139, 140, 141, 158, 159, 160, 142, 143, 144, 145, 146, 147, 148, 149, 150, 151, 152, 153, 154, 155] (by decide +kernel) (by decide +kernel)
set_option maxRecDepth 20000 in
theorem gX6_take_X6_holdFoundRow : GoodIn wsX6_take (wsV RX6 73 RX6 yX6_holdFoundRow wsX6_holdFoundRow) := goodIn_app (goodIn_of _ (by decide +kernel)) ggX6_take_X6_holdFoundRow
theorem dX6_take_0 : decode cX6_take 0 = .ok (.aload_n 0, 1) := by decide +kernel
theorem dX6_take_1 : decode cX6_take 1 = .ok (.iload_n 1, 1) := by decide +kernel
theorem dX6_take_2 : decode cX6_take 2 = .ok (.iload_n 2, 1) := by decide +kernel
theorem dX6_take_3 : decode cX6_take 3 = .ok (.iload_n 3, 1) := by decide +kernel
theorem dX6_take_4 : decode cX6_take 4 = .ok (.iload 4, 2) := by decide +kernel
theorem dX6_take_6 : decode cX6_take 6 = .ok (.iload 5, 2) := by decide +kernel
theorem dX6_take_8 : decode cX6_take 8 = .ok (.invokevirtual 58, 3) := by decide +kernel
theorem dX6_take_11 : decode cX6_take 11 = .ok (.istore 7, 2) := by decide +kernel
theorem dX6_take_13 : decode cX6_take 13 = .ok (.iload 7, 2) := by decide +kernel
theorem dX6_take_15 : decode cX6_take 15 = .ok (.ifCond .eq 6, 3) := by decide +kernel
theorem dX6_take_18 : decode cX6_take 18 = .ok (.iload 7, 2) := by decide +kernel
theorem dX6_take_20 : decode cX6_take 20 = .ok (.ireturn, 1) := by decide +kernel
theorem dX6_take_21 : decode cX6_take 21 = .ok (.aload_n 0, 1) := by decide +kernel
theorem dX6_take_22 : decode cX6_take 22 = .ok (.iload_n 1, 1) := by decide +kernel
theorem dX6_take_23 : decode cX6_take 23 = .ok (.iload_n 2, 1) := by decide +kernel
theorem dX6_take_24 : decode cX6_take 24 = .ok (.iload 4, 2) := by decide +kernel
theorem dX6_take_26 : decode cX6_take 26 = .ok (.iload 5, 2) := by decide +kernel
theorem dX6_take_28 : decode cX6_take 28 = .ok (.invokevirtual 62, 3) := by decide +kernel
theorem dX6_take_31 : decode cX6_take 31 = .ok (.aload_n 0, 1) := by decide +kernel
theorem dX6_take_32 : decode cX6_take 32 = .ok (.getfield 16, 3) := by decide +kernel
theorem dX6_take_35 : decode cX6_take 35 = .ok (.iload_n 3, 1) := by decide +kernel
theorem dX6_take_36 : decode cX6_take 36 = .ok (.iload 6, 2) := by decide +kernel
theorem dX6_take_38 : decode cX6_take 38 = .ok (.invokevirtual 66, 3) := by decide +kernel
theorem dX6_take_41 : decode cX6_take 41 = .ok (.ifCond .ne 5, 3) := by decide +kernel
theorem dX6_take_44 : decode cX6_take 44 = .ok (.iconst (-1), 1) := by decide +kernel
theorem dX6_take_45 : decode cX6_take 45 = .ok (.ireturn, 1) := by decide +kernel
theorem dX6_take_46 : decode cX6_take 46 = .ok (.aload_n 0, 1) := by decide +kernel
theorem dX6_take_47 : decode cX6_take 47 = .ok (.iload_n 3, 1) := by decide +kernel
theorem dX6_take_48 : decode cX6_take 48 = .ok (.invokevirtual 73, 3) := by decide +kernel
theorem dX6_take_51 : decode cX6_take 51 = .ok (.iconst 1, 1) := by decide +kernel
theorem dX6_take_52 : decode cX6_take 52 = .ok (.ireturn, 1) := by decide +kernel
set_option maxRecDepth 20000 in
theorem ggX6_smallest_X6_rowRefusal : GoodIn wsX6_smallest wsX6_rowRefusal := goodIn_r _ [7, 8, 9, 10, 6, 11, 12, 13, 14, 15, 16, 17, 139, 140, 141, 142, 143, 144, 145] (by decide +kernel) (by decide +kernel)
set_option maxRecDepth 20000 in
theorem gX6_smallest_X6_rowRefusal : GoodIn wsX6_smallest (wsV RX6 58 RX6 yX6_rowRefusal wsX6_rowRefusal) := goodIn_app (goodIn_of _ (by decide +kernel)) ggX6_smallest_X6_rowRefusal
set_option maxRecDepth 20000 in
theorem ggX6_smallest_X6_beginRows : GoodIn wsX6_smallest wsX6_beginRows := goodIn_r _ [21, 8, 1, 22, 23, 24, 25, 26, 27, 28, 29, 30, 31, 32, 33, 34, 35, 36, 37, 38, 39, 40, 41, 42, 43, 44, 45, 46, 47, 48, 49, 50, 51, 52, 53, 54, 55, 56, 57, 58, 59, 60, 61, 62, 63, 64, 65, 66, 139, 140, 141, 142, 143, 144, 145, 146, 147, 148, 149, 150, 151, 152, 153, 154, 155, 156, 157, 158, 159, 160, 161] (by decide +kernel) (by decide +kernel)
set_option maxRecDepth 20000 in
theorem gX6_smallest_X6_beginRows : GoodIn wsX6_smallest (wsV RX6 62 RX6 yX6_beginRows wsX6_beginRows) := goodIn_app (goodIn_of _ (by decide +kernel)) ggX6_smallest_X6_beginRows
set_option maxRecDepth 20000 in
theorem ggX6_smallest_X4_findSmallest : GoodIn wsX6_smallest wsX4_findSmallest := goodIn_r _ [70, 71, 72, 73, 74, 26, 75, 76, 77, 78, 79, 80, 29, 81, 28, 82, 59, 83, 84, 85, 86, 30, 87, 88, 89, 90, 91, 92, 93, 94, 95, 96, 97, 98, 99, 64, 100, 101, 102, 103, 66, 104, 105, 106, 107, 65, 108, 109, 110, 111, 146, 147, 148, 149, 150, 151, 152, 153, 154, 155, 156, 157, 158, 159, 160, 161] (by decide +kernel) (by decide +kernel)
set_option maxRecDepth 20000 in
theorem gX6_smallest_X4_findSmallest : GoodIn wsX6_smallest (wsV RX6 77 RX4 yX4_findSmallest wsX4_findSmallest) := goodIn_app (goodIn_of _ (by decide +kernel)) ggX6_smallest_X4_findSmallest
set_option maxRecDepth 20000 in
theorem ggX6_smallest_X6_holdFoundRow : GoodIn wsX6_smallest wsX6_holdFoundRow := goodIn_r _ [115, 2, 1, 116, 117, 118, 119, 120, 121, 122, 123, 124, 26, 125, 91, 126, 127, 128, 129, 130, 131, 132, 133, 134, 139, 140, 141, 142, 143, 144, 145, 162, 163, 164, 146, 147, 148, 149, 150, 151, 152, 153, 154, 155, 156, 157, 158, 159] (by decide +kernel) (by decide +kernel)
set_option maxRecDepth 20000 in
theorem gX6_smallest_X6_holdFoundRow : GoodIn wsX6_smallest (wsV RX6 73 RX6 yX6_holdFoundRow wsX6_holdFoundRow) := goodIn_app (goodIn_of _ (by decide +kernel)) ggX6_smallest_X6_holdFoundRow
set_option maxRecDepth 20000 in
theorem ggX6_smallest_X3_at : GoodIn wsX6_smallest wsX3_at := goodIn_r _ [138, 121, 130, 162, 163, 164] (by decide +kernel) (by decide +kernel)
set_option maxRecDepth 20000 in
theorem gX6_smallest_X3_at : GoodIn wsX6_smallest (wsV RX6 80 RX3 yX3_at wsX3_at) := goodIn_app (goodIn_of _ (by decide +kernel)) ggX6_smallest_X3_at
theorem dX6_smallest_0 : decode cX6_smallest 0 = .ok (.aload_n 0, 1) := by decide +kernel
theorem dX6_smallest_1 : decode cX6_smallest 1 = .ok (.iload_n 1, 1) := by decide +kernel
theorem dX6_smallest_2 : decode cX6_smallest 2 = .ok (.iload_n 2, 1) := by decide +kernel
theorem dX6_smallest_3 : decode cX6_smallest 3 = .ok (.iload_n 3, 1) := by decide +kernel
theorem dX6_smallest_4 : decode cX6_smallest 4 = .ok (.iload 4, 2) := by decide +kernel
theorem dX6_smallest_6 : decode cX6_smallest 6 = .ok (.iload 5, 2) := by decide +kernel
theorem dX6_smallest_8 : decode cX6_smallest 8 = .ok (.invokevirtual 58, 3) := by decide +kernel
theorem dX6_smallest_11 : decode cX6_smallest 11 = .ok (.istore 6, 2) := by decide +kernel
theorem dX6_smallest_13 : decode cX6_smallest 13 = .ok (.iload 6, 2) := by decide +kernel
theorem dX6_smallest_15 : decode cX6_smallest 15 = .ok (.ifCond .eq 6, 3) := by decide +kernel
theorem dX6_smallest_18 : decode cX6_smallest 18 = .ok (.iload 6, 2) := by decide +kernel
theorem dX6_smallest_20 : decode cX6_smallest 20 = .ok (.ireturn, 1) := by decide +kernel
theorem dX6_smallest_21 : decode cX6_smallest 21 = .ok (.aload_n 0, 1) := by decide +kernel
theorem dX6_smallest_22 : decode cX6_smallest 22 = .ok (.iload_n 1, 1) := by decide +kernel
theorem dX6_smallest_23 : decode cX6_smallest 23 = .ok (.iload_n 2, 1) := by decide +kernel
theorem dX6_smallest_24 : decode cX6_smallest 24 = .ok (.iload 4, 2) := by decide +kernel
theorem dX6_smallest_26 : decode cX6_smallest 26 = .ok (.iload 5, 2) := by decide +kernel
theorem dX6_smallest_28 : decode cX6_smallest 28 = .ok (.invokevirtual 62, 3) := by decide +kernel
theorem dX6_smallest_31 : decode cX6_smallest 31 = .ok (.aload_n 0, 1) := by decide +kernel
theorem dX6_smallest_32 : decode cX6_smallest 32 = .ok (.getfield 16, 3) := by decide +kernel
theorem dX6_smallest_35 : decode cX6_smallest 35 = .ok (.iload_n 3, 1) := by decide +kernel
theorem dX6_smallest_36 : decode cX6_smallest 36 = .ok (.invokevirtual 77, 3) := by decide +kernel
theorem dX6_smallest_39 : decode cX6_smallest 39 = .ok (.ifCond .ne 5, 3) := by decide +kernel
theorem dX6_smallest_42 : decode cX6_smallest 42 = .ok (.iconst (-1), 1) := by decide +kernel
theorem dX6_smallest_43 : decode cX6_smallest 43 = .ok (.ireturn, 1) := by decide +kernel
theorem dX6_smallest_44 : decode cX6_smallest 44 = .ok (.aload_n 0, 1) := by decide +kernel
theorem dX6_smallest_45 : decode cX6_smallest 45 = .ok (.iload_n 3, 1) := by decide +kernel
theorem dX6_smallest_46 : decode cX6_smallest 46 = .ok (.invokevirtual 73, 3) := by decide +kernel
theorem dX6_smallest_49 : decode cX6_smallest 49 = .ok (.aload_n 0, 1) := by decide +kernel
theorem dX6_smallest_50 : decode cX6_smallest 50 = .ok (.getfield 30, 3) := by decide +kernel
theorem dX6_smallest_53 : decode cX6_smallest 53 = .ok (.iload_n 3, 1) := by decide +kernel
theorem dX6_smallest_54 : decode cX6_smallest 54 = .ok (.iconst 1, 1) := by decide +kernel
theorem dX6_smallest_55 : decode cX6_smallest 55 = .ok (.isub, 1) := by decide +kernel
theorem dX6_smallest_56 : decode cX6_smallest 56 = .ok (.invokevirtual 80, 3) := by decide +kernel
theorem dX6_smallest_59 : decode cX6_smallest 59 = .ok (.ireturn, 1) := by decide +kernel
set_option maxRecDepth 20000 in
theorem ggX6_greedy_X6_isFraction : GoodIn wsX6_greedy wsX6_isFraction := goodIn_r _ [5] (by decide +kernel) (by decide +kernel)
set_option maxRecDepth 20000 in
theorem gX6_greedy_X6_isFraction : GoodIn wsX6_greedy (va_wsS RX6 83 yX6_isFraction wsX6_isFraction) := goodIn_app (goodIn_of _ (by decide +kernel)) ggX6_greedy_X6_isFraction
set_option maxRecDepth 20000 in
theorem ggX6_greedy_X2_start : GoodIn wsX6_greedy wsX2_start := goodIn_r _ [10, 11, 12, 13, 14, 15, 16, 17, 18, 19, 20, 21, 22, 23, 24, 25, 26, 27, 28, 29, 30, 31, 32, 33, 34, 9, 35, 36, 37, 38, 39, 40, 41, 42, 43, 44, 45, 46, 58, 59, 60, 61, 62, 63, 64] (by decide +kernel) (by decide +kernel)
set_option maxRecDepth 20000 in
theorem gX6_greedy_X2_start : GoodIn wsX6_greedy (wsV RX6 86 RX2 yX2_start wsX2_start) := goodIn_app (goodIn_of _ (by decide +kernel)) ggX6_greedy_X2_start
set_option maxRecDepth 20000 in
theorem ggX6_greedy_X2_size : GoodIn wsX6_greedy wsX2_size := goodIn_r _ [50, 12, 58, 59, 60, 61, 62] (by decide +kernel) (by decide +kernel)
set_option maxRecDepth 20000 in
theorem gX6_greedy_X2_size : GoodIn wsX6_greedy (wsV RX6 90 RX2 yX2_size wsX2_size) := goodIn_app (goodIn_of _ (by decide +kernel)) ggX6_greedy_X2_size
theorem dX6_greedy_0 : decode cX6_greedy 0 = .ok (.iload_n 1, 1) := by decide +kernel
theorem dX6_greedy_1 : decode cX6_greedy 1 = .ok (.iload_n 2, 1) := by decide +kernel
theorem dX6_greedy_2 : decode cX6_greedy 2 = .ok (.invokestatic 83, 3) := by decide +kernel
theorem dX6_greedy_5 : decode cX6_greedy 5 = .ok (.ifCond .ne 6, 3) := by decide +kernel
theorem dX6_greedy_8 : decode cX6_greedy 8 = .ok (.bipush (-102), 2) := by decide +kernel
theorem dX6_greedy_10 : decode cX6_greedy 10 = .ok (.ireturn, 1) := by decide +kernel
theorem dX6_greedy_11 : decode cX6_greedy 11 = .ok (.aload_n 0, 1) := by decide +kernel
theorem dX6_greedy_12 : decode cX6_greedy 12 = .ok (.getfield 23, 3) := by decide +kernel
theorem dX6_greedy_15 : decode cX6_greedy 15 = .ok (.iload_n 1, 1) := by decide +kernel
theorem dX6_greedy_16 : decode cX6_greedy 16 = .ok (.iload_n 2, 1) := by decide +kernel
theorem dX6_greedy_17 : decode cX6_greedy 17 = .ok (.invokevirtual 86, 3) := by decide +kernel
theorem dX6_greedy_20 : decode cX6_greedy 20 = .ok (.aload_n 0, 1) := by decide +kernel
theorem dX6_greedy_21 : decode cX6_greedy 21 = .ok (.getfield 23, 3) := by decide +kernel
theorem dX6_greedy_24 : decode cX6_greedy 24 = .ok (.invokevirtual 90, 3) := by decide +kernel
theorem dX6_greedy_27 : decode cX6_greedy 27 = .ok (.ireturn, 1) := by decide +kernel
set_option maxRecDepth 20000 in
theorem ggX6_step_X2_at : GoodIn wsX6_step wsX2_at := goodIn_r _ [6, 7, 8, 16, 17, 18, 19, 20] (by decide +kernel) (by decide +kernel)
set_option maxRecDepth 20000 in
theorem gX6_step_X2_at : GoodIn wsX6_step (wsV RX6 94 RX2 yX2_at wsX2_at) := goodIn_app (goodIn_of _ (by decide +kernel)) ggX6_step_X2_at
theorem dX6_step_0 : decode cX6_step 0 = .ok (.aload_n 0, 1) := by decide +kernel
theorem dX6_step_1 : decode cX6_step 1 = .ok (.getfield 23, 3) := by decide +kernel
theorem dX6_step_4 : decode cX6_step 4 = .ok (.iload_n 1, 1) := by decide +kernel
theorem dX6_step_5 : decode cX6_step 5 = .ok (.invokevirtual 94, 3) := by decide +kernel
theorem dX6_step_8 : decode cX6_step 8 = .ok (.ireturn, 1) := by decide +kernel
set_option maxRecDepth 20000 in
theorem ggX6_left_X2_size : GoodIn wsX6_left wsX2_size := goodIn_r _ [8, 9, 27, 28, 29, 30, 31] (by decide +kernel) (by decide +kernel)
set_option maxRecDepth 20000 in
theorem gX6_left_X2_size : GoodIn wsX6_left (wsV RX6 90 RX2 yX2_size wsX2_size) := goodIn_app (goodIn_of _ (by decide +kernel)) ggX6_left_X2_size
set_option maxRecDepth 20000 in
theorem ggX6_left_X2_aboveBehind : GoodIn wsX6_left wsX2_aboveBehind := goodIn_r _ [13, 14, 27, 28, 29, 30, 31] (by decide +kernel) (by decide +kernel)
set_option maxRecDepth 20000 in
theorem gX6_left_X2_aboveBehind : GoodIn wsX6_left (wsV RX6 99 RX2 yX2_aboveBehind wsX2_aboveBehind) := goodIn_app (goodIn_of _ (by decide +kernel)) ggX6_left_X2_aboveBehind
set_option maxRecDepth 20000 in
theorem ggX6_left_X2_belowBehind : GoodIn wsX6_left wsX2_belowBehind := goodIn_r _ [18, 19, 27, 28, 29, 30, 31] (by decide +kernel) (by decide +kernel)
set_option maxRecDepth 20000 in
theorem gX6_left_X2_belowBehind : GoodIn wsX6_left (wsV RX6 103 RX2 yX2_belowBehind wsX2_belowBehind) := goodIn_app (goodIn_of _ (by decide +kernel)) ggX6_left_X2_belowBehind
theorem dX6_left_0 : decode cX6_left 0 = .ok (.iload_n 1, 1) := by decide +kernel
theorem dX6_left_1 : decode cX6_left 1 = .ok (.ifCond .lt 14, 3) := by decide +kernel
theorem dX6_left_4 : decode cX6_left 4 = .ok (.iload_n 1, 1) := by decide +kernel
theorem dX6_left_5 : decode cX6_left 5 = .ok (.aload_n 0, 1) := by decide +kernel
theorem dX6_left_6 : decode cX6_left 6 = .ok (.getfield 23, 3) := by decide +kernel
theorem dX6_left_9 : decode cX6_left 9 = .ok (.invokevirtual 90, 3) := by decide +kernel
theorem dX6_left_12 : decode cX6_left 12 = .ok (.if_icmp .le 7, 3) := by decide +kernel
theorem dX6_left_15 : decode cX6_left 15 = .ok (.ldc2_w 95, 3) := by decide +kernel
theorem dX6_left_18 : decode cX6_left 18 = .ok (.lreturn, 1) := by decide +kernel
theorem dX6_left_19 : decode cX6_left 19 = .ok (.iload_n 2, 1) := by decide +kernel
theorem dX6_left_20 : decode cX6_left 20 = .ok (.ifCond .eq 12, 3) := by decide +kernel
theorem dX6_left_23 : decode cX6_left 23 = .ok (.iload_n 2, 1) := by decide +kernel
theorem dX6_left_24 : decode cX6_left 24 = .ok (.iconst 1, 1) := by decide +kernel
theorem dX6_left_25 : decode cX6_left 25 = .ok (.if_icmp .eq 7, 3) := by decide +kernel
theorem dX6_left_28 : decode cX6_left 28 = .ok (.ldc2_w 97, 3) := by decide +kernel
theorem dX6_left_31 : decode cX6_left 31 = .ok (.lreturn, 1) := by decide +kernel
theorem dX6_left_32 : decode cX6_left 32 = .ok (.iload_n 2, 1) := by decide +kernel
theorem dX6_left_33 : decode cX6_left 33 = .ok (.ifCond .ne 14, 3) := by decide +kernel
theorem dX6_left_36 : decode cX6_left 36 = .ok (.aload_n 0, 1) := by decide +kernel
theorem dX6_left_37 : decode cX6_left 37 = .ok (.getfield 23, 3) := by decide +kernel
theorem dX6_left_40 : decode cX6_left 40 = .ok (.iload_n 1, 1) := by decide +kernel
theorem dX6_left_41 : decode cX6_left 41 = .ok (.invokevirtual 99, 3) := by decide +kernel
theorem dX6_left_44 : decode cX6_left 44 = .ok (.goto 11, 3) := by decide +kernel
theorem dX6_left_47 : decode cX6_left 47 = .ok (.aload_n 0, 1) := by decide +kernel
theorem dX6_left_48 : decode cX6_left 48 = .ok (.getfield 23, 3) := by decide +kernel
theorem dX6_left_51 : decode cX6_left 51 = .ok (.iload_n 1, 1) := by decide +kernel
theorem dX6_left_52 : decode cX6_left 52 = .ok (.invokevirtual 103, 3) := by decide +kernel
theorem dX6_left_55 : decode cX6_left 55 = .ok (.lreturn, 1) := by decide +kernel
set_option maxRecDepth 20000 in
theorem ggX6_done_X2_isDone : GoodIn wsX6_done wsX2_isDone := goodIn_r _ [6, 7, 8, 9, 21, 22, 23, 24, 25, 26, 27] (by decide +kernel) (by decide +kernel)
set_option maxRecDepth 20000 in
theorem gX6_done_X2_isDone : GoodIn wsX6_done (wsV RX6 106 RX2 yX2_isDone wsX2_isDone) := goodIn_app (goodIn_of _ (by decide +kernel)) ggX6_done_X2_isDone
set_option maxRecDepth 20000 in
theorem ggX6_done_X6_asInt : GoodIn wsX6_done wsX6_asInt := goodIn_r _ [13] (by decide +kernel) (by decide +kernel)
set_option maxRecDepth 20000 in
theorem gX6_done_X6_asInt : GoodIn wsX6_done (va_wsS RX6 45 yX6_asInt wsX6_asInt) := goodIn_app (goodIn_of _ (by decide +kernel)) ggX6_done_X6_asInt
theorem dX6_done_0 : decode cX6_done 0 = .ok (.aload_n 0, 1) := by decide +kernel
theorem dX6_done_1 : decode cX6_done 1 = .ok (.getfield 23, 3) := by decide +kernel
theorem dX6_done_4 : decode cX6_done 4 = .ok (.invokevirtual 106, 3) := by decide +kernel
theorem dX6_done_7 : decode cX6_done 7 = .ok (.invokestatic 45, 3) := by decide +kernel
theorem dX6_done_10 : decode cX6_done 10 = .ok (.ireturn, 1) := by decide +kernel
set_option maxRecDepth 20000 in
theorem ggX6_put_X3_holds : GoodIn wsX6_put wsX3_holds := goodIn_r _ [6, 7, 8, 9, 5, 10, 11, 12, 33, 34, 35] (by decide +kernel) (by decide +kernel)
set_option maxRecDepth 20000 in
theorem gX6_put_X3_holds : GoodIn wsX6_put (wsV RX6 110 RX3 yX3_holds wsX3_holds) := goodIn_app (goodIn_of _ (by decide +kernel)) ggX6_put_X3_holds
set_option maxRecDepth 20000 in
theorem ggX6_put_X3_isFull : GoodIn wsX6_put wsX3_isFull := goodIn_r _ [16, 11, 12, 33, 34, 35] (by decide +kernel) (by decide +kernel)
set_option maxRecDepth 20000 in
theorem gX6_put_X3_isFull : GoodIn wsX6_put (wsV RX6 113 RX3 yX3_isFull wsX3_isFull) := goodIn_app (goodIn_of _ (by decide +kernel)) ggX6_put_X3_isFull
set_option maxRecDepth 20000 in
theorem ggX6_put_X3_insert : GoodIn wsX6_put wsX3_insert := goodIn_r _ [20, 11, 12, 21, 14, 15, 5, 16, 33, 34, 35] (by decide +kernel) (by decide +kernel)
set_option maxRecDepth 20000 in
theorem gX6_put_X3_insert : GoodIn wsX6_put (wsV RX6 116 RX3 yX3_insert wsX3_insert) := goodIn_app (goodIn_of _ (by decide +kernel)) ggX6_put_X3_insert
set_option maxRecDepth 20000 in
theorem ggX6_put_X3_size : GoodIn wsX6_put wsX3_size := goodIn_r _ [25, 11, 33, 34, 35] (by decide +kernel) (by decide +kernel)
set_option maxRecDepth 20000 in
theorem gX6_put_X3_size : GoodIn wsX6_put (wsV RX6 119 RX3 yX3_size wsX3_size) := goodIn_app (goodIn_of _ (by decide +kernel)) ggX6_put_X3_size
theorem dX6_put_0 : decode cX6_put 0 = .ok (.iload_n 1, 1) := by decide +kernel
theorem dX6_put_1 : decode cX6_put 1 = .ok (.iconst 2, 1) := by decide +kernel
theorem dX6_put_2 : decode cX6_put 2 = .ok (.if_icmp .lt 10, 3) := by decide +kernel
theorem dX6_put_5 : decode cX6_put 5 = .ok (.iload_n 1, 1) := by decide +kernel
theorem dX6_put_6 : decode cX6_put 6 = .ok (.sipush 1000, 3) := by decide +kernel
theorem dX6_put_9 : decode cX6_put 9 = .ok (.if_icmp .le 6, 3) := by decide +kernel
theorem dX6_put_12 : decode cX6_put 12 = .ok (.bipush (-102), 2) := by decide +kernel
theorem dX6_put_14 : decode cX6_put 14 = .ok (.ireturn, 1) := by decide +kernel
theorem dX6_put_15 : decode cX6_put 15 = .ok (.aload_n 0, 1) := by decide +kernel
theorem dX6_put_16 : decode cX6_put 16 = .ok (.getfield 30, 3) := by decide +kernel
theorem dX6_put_19 : decode cX6_put 19 = .ok (.iload_n 1, 1) := by decide +kernel
theorem dX6_put_20 : decode cX6_put 20 = .ok (.invokevirtual 110, 3) := by decide +kernel
theorem dX6_put_23 : decode cX6_put 23 = .ok (.ifCond .eq 6, 3) := by decide +kernel
theorem dX6_put_26 : decode cX6_put 26 = .ok (.bipush (-103), 2) := by decide +kernel
theorem dX6_put_28 : decode cX6_put 28 = .ok (.ireturn, 1) := by decide +kernel
theorem dX6_put_29 : decode cX6_put 29 = .ok (.aload_n 0, 1) := by decide +kernel
theorem dX6_put_30 : decode cX6_put 30 = .ok (.getfield 30, 3) := by decide +kernel
theorem dX6_put_33 : decode cX6_put 33 = .ok (.invokevirtual 113, 3) := by decide +kernel
theorem dX6_put_36 : decode cX6_put 36 = .ok (.ifCond .eq 6, 3) := by decide +kernel
theorem dX6_put_39 : decode cX6_put 39 = .ok (.bipush (-104), 2) := by decide +kernel
theorem dX6_put_41 : decode cX6_put 41 = .ok (.ireturn, 1) := by decide +kernel
theorem dX6_put_42 : decode cX6_put 42 = .ok (.aload_n 0, 1) := by decide +kernel
theorem dX6_put_43 : decode cX6_put 43 = .ok (.getfield 30, 3) := by decide +kernel
theorem dX6_put_46 : decode cX6_put 46 = .ok (.iload_n 1, 1) := by decide +kernel
theorem dX6_put_47 : decode cX6_put 47 = .ok (.invokevirtual 116, 3) := by decide +kernel
theorem dX6_put_50 : decode cX6_put 50 = .ok (.aload_n 0, 1) := by decide +kernel
theorem dX6_put_51 : decode cX6_put 51 = .ok (.getfield 30, 3) := by decide +kernel
theorem dX6_put_54 : decode cX6_put 54 = .ok (.invokevirtual 119, 3) := by decide +kernel
theorem dX6_put_57 : decode cX6_put 57 = .ok (.ireturn, 1) := by decide +kernel
set_option maxRecDepth 20000 in
theorem ggX6_drop_X3_holds : GoodIn wsX6_drop wsX3_holds := goodIn_r _ [6, 7, 8, 9, 5, 10, 11, 12, 28, 29, 30] (by decide +kernel) (by decide +kernel)
set_option maxRecDepth 20000 in
theorem gX6_drop_X3_holds : GoodIn wsX6_drop (wsV RX6 110 RX3 yX3_holds wsX3_holds) := goodIn_app (goodIn_of _ (by decide +kernel)) ggX6_drop_X3_holds
set_option maxRecDepth 20000 in
theorem ggX6_drop_X3_remove : GoodIn wsX6_drop wsX3_remove := goodIn_r _ [16, 11, 12, 7, 8, 9, 5, 10, 28, 29, 30] (by decide +kernel) (by decide +kernel)
set_option maxRecDepth 20000 in
theorem gX6_drop_X3_remove : GoodIn wsX6_drop (wsV RX6 120 RX3 yX3_remove wsX3_remove) := goodIn_app (goodIn_of _ (by decide +kernel)) ggX6_drop_X3_remove
set_option maxRecDepth 20000 in
theorem ggX6_drop_X3_size : GoodIn wsX6_drop wsX3_size := goodIn_r _ [20, 11, 28, 29, 30] (by decide +kernel) (by decide +kernel)
set_option maxRecDepth 20000 in
theorem gX6_drop_X3_size : GoodIn wsX6_drop (wsV RX6 119 RX3 yX3_size wsX3_size) := goodIn_app (goodIn_of _ (by decide +kernel)) ggX6_drop_X3_size
theorem dX6_drop_0 : decode cX6_drop 0 = .ok (.aload_n 0, 1) := by decide +kernel
theorem dX6_drop_1 : decode cX6_drop 1 = .ok (.getfield 30, 3) := by decide +kernel
theorem dX6_drop_4 : decode cX6_drop 4 = .ok (.iload_n 1, 1) := by decide +kernel
theorem dX6_drop_5 : decode cX6_drop 5 = .ok (.invokevirtual 110, 3) := by decide +kernel
theorem dX6_drop_8 : decode cX6_drop 8 = .ok (.ifCond .ne 6, 3) := by decide +kernel
theorem dX6_drop_11 : decode cX6_drop 11 = .ok (.bipush (-101), 2) := by decide +kernel
theorem dX6_drop_13 : decode cX6_drop 13 = .ok (.ireturn, 1) := by decide +kernel
theorem dX6_drop_14 : decode cX6_drop 14 = .ok (.aload_n 0, 1) := by decide +kernel
theorem dX6_drop_15 : decode cX6_drop 15 = .ok (.getfield 30, 3) := by decide +kernel
theorem dX6_drop_18 : decode cX6_drop 18 = .ok (.iload_n 1, 1) := by decide +kernel
theorem dX6_drop_19 : decode cX6_drop 19 = .ok (.invokevirtual 120, 3) := by decide +kernel
theorem dX6_drop_22 : decode cX6_drop 22 = .ok (.aload_n 0, 1) := by decide +kernel
theorem dX6_drop_23 : decode cX6_drop 23 = .ok (.getfield 30, 3) := by decide +kernel
theorem dX6_drop_26 : decode cX6_drop 26 = .ok (.invokevirtual 119, 3) := by decide +kernel
theorem dX6_drop_29 : decode cX6_drop 29 = .ok (.ireturn, 1) := by decide +kernel
set_option maxRecDepth 20000 in
theorem ggX6_clear_X3_size : GoodIn wsX6_clear wsX3_size := goodIn_r _ [6, 7, 19, 20, 21] (by decide +kernel) (by decide +kernel)
set_option maxRecDepth 20000 in
theorem gX6_clear_X3_size : GoodIn wsX6_clear (wsV RX6 119 RX3 yX3_size wsX3_size) := goodIn_app (goodIn_of _ (by decide +kernel)) ggX6_clear_X3_size
