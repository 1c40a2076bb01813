theorem dX7_next_122 : decode cX7_next 122 = .ok (.lcmp, 1) := by decide +kernel
theorem dX7_next_123 : decode cX7_next 123 = .ok (.ifCond .le 5, 3) := by decide +kernel
theorem dX7_next_126 : decode cX7_next 126 = .ok (.iconst 0, 1) := by decide +kernel
theorem dX7_next_127 : decode cX7_next 127 = .ok (.ireturn, 1) := by decide +kernel
theorem dX7_next_128 : decode cX7_next 128 = .ok (.iload 10, 2) := by decide +kernel
theorem dX7_next_130 : decode cX7_next 130 = .ok (.i2l, 1) := by decide +kernel
theorem dX7_next_131 : decode cX7_next 131 = .ok (.lload 12, 2) := by decide +kernel
theorem dX7_next_133 : decode cX7_next 133 = .ok (.lcmp, 1) := by decide +kernel
theorem dX7_next_134 : decode cX7_next 134 = .ok (.ifCond .ge 9, 3) := by decide +kernel
theorem dX7_next_137 : decode cX7_next 137 = .ok (.lload 12, 2) := by decide +kernel
theorem dX7_next_139 : decode cX7_next 139 = .ok (.l2i, 1) := by decide +kernel
theorem dX7_next_140 : decode cX7_next 140 = .ok (.goto 5, 3) := by decide +kernel
theorem dX7_next_143 : decode cX7_next 143 = .ok (.iload 10, 2) := by decide +kernel
theorem dX7_next_145 : decode cX7_next 145 = .ok (.istore 10, 2) := by decide +kernel
theorem dX7_next_147 : decode cX7_next 147 = .ok (.iload 10, 2) := by decide +kernel
theorem dX7_next_149 : decode cX7_next 149 = .ok (.iload 4, 2) := by decide +kernel
theorem dX7_next_151 : decode cX7_next 151 = .ok (.if_icmp .gt 19, 3) := by decide +kernel
theorem dX7_next_154 : decode cX7_next 154 = .ok (.aload_n 0, 1) := by decide +kernel
theorem dX7_next_155 : decode cX7_next 155 = .ok (.iload 10, 2) := by decide +kernel
theorem dX7_next_157 : decode cX7_next 157 = .ok (.iload_n 3, 1) := by decide +kernel
theorem dX7_next_158 : decode cX7_next 158 = .ok (.invokevirtual 53, 3) := by decide +kernel
theorem dX7_next_161 : decode cX7_next 161 = .ok (.ifCond .ne 9, 3) := by decide +kernel
theorem dX7_next_164 : decode cX7_next 164 = .ok (.iinc 10 1, 3) := by decide +kernel
theorem dX7_next_167 : decode cX7_next 167 = .ok (.goto (-20), 3) := by decide +kernel
theorem dX7_next_170 : decode cX7_next 170 = .ok (.iload 10, 2) := by decide +kernel
theorem dX7_next_172 : decode cX7_next 172 = .ok (.iload 4, 2) := by decide +kernel
theorem dX7_next_174 : decode cX7_next 174 = .ok (.if_icmp .gt 44, 3) := by decide +kernel
theorem dX7_next_177 : decode cX7_next 177 = .ok (.iload 11, 2) := by decide +kernel
theorem dX7_next_179 : decode cX7_next 179 = .ok (.ifCond .eq 18, 3) := by decide +kernel
theorem dX7_next_182 : decode cX7_next 182 = .ok (.iload 10, 2) := by decide +kernel
theorem dX7_next_184 : decode cX7_next 184 = .ok (.i2l, 1) := by decide +kernel
theorem dX7_next_185 : decode cX7_next 185 = .ok (.lload 5, 2) := by decide +kernel
theorem dX7_next_187 : decode cX7_next 187 = .ok (.lmul, 1) := by decide +kernel
theorem dX7_next_188 : decode cX7_next 188 = .ok (.lload 7, 2) := by decide +kernel
theorem dX7_next_190 : decode cX7_next 190 = .ok (.lcmp, 1) := by decide +kernel
theorem dX7_next_191 : decode cX7_next 191 = .ok (.ifCond .ne 27, 3) := by decide +kernel
theorem dX7_next_194 : decode cX7_next 194 = .ok (.goto 20, 3) := by decide +kernel
theorem dX7_next_197 : decode cX7_next 197 = .ok (.iload 10, 2) := by decide +kernel
theorem dX7_next_199 : decode cX7_next 199 = .ok (.i2l, 1) := by decide +kernel
theorem dX7_next_200 : decode cX7_next 200 = .ok (.lload 5, 2) := by decide +kernel
theorem dX7_next_202 : decode cX7_next 202 = .ok (.lmul, 1) := by decide +kernel
theorem dX7_next_203 : decode cX7_next 203 = .ok (.iload_n 2, 1) := by decide +kernel
theorem dX7_next_204 : decode cX7_next 204 = .ok (.iload_n 1, 1) := by decide +kernel
theorem dX7_next_205 : decode cX7_next 205 = .ok (.isub, 1) := by decide +kernel
theorem dX7_next_206 : decode cX7_next 206 = .ok (.i2l, 1) := by decide +kernel
theorem dX7_next_207 : decode cX7_next 207 = .ok (.lload 7, 2) := by decide +kernel
theorem dX7_next_209 : decode cX7_next 209 = .ok (.lmul, 1) := by decide +kernel
theorem dX7_next_210 : decode cX7_next 210 = .ok (.lcmp, 1) := by decide +kernel
theorem dX7_next_211 : decode cX7_next 211 = .ok (.ifCond .ge 7, 3) := by decide +kernel
theorem dX7_next_214 : decode cX7_next 214 = .ok (.iconst 1, 1) := by decide +kernel
theorem dX7_next_215 : decode cX7_next 215 = .ok (.goto 4, 3) := by decide +kernel
theorem dX7_next_218 : decode cX7_next 218 = .ok (.iconst 0, 1) := by decide +kernel
theorem dX7_next_219 : decode cX7_next 219 = .ok (.istore 14, 2) := by decide +kernel
theorem dX7_next_221 : decode cX7_next 221 = .ok (.iload 14, 2) := by decide +kernel
theorem dX7_next_223 : decode cX7_next 223 = .ok (.ifCond .eq 8, 3) := by decide +kernel
theorem dX7_next_226 : decode cX7_next 226 = .ok (.iload 10, 2) := by decide +kernel
theorem dX7_next_228 : decode cX7_next 228 = .ok (.goto 4, 3) := by decide +kernel
theorem dX7_next_231 : decode cX7_next 231 = .ok (.iconst 0, 1) := by decide +kernel
theorem dX7_next_232 : decode cX7_next 232 = .ok (.ireturn, 1) := by decide +kernel
theorem dX7_note_0 : decode cX7_note 0 = .ok (.iload_n 2, 1) := by decide +kernel
theorem dX7_note_1 : decode cX7_note 1 = .ok (.ifCond .eq 37, 3) := by decide +kernel
theorem dX7_note_4 : decode cX7_note 4 = .ok (.aload_n 0, 1) := by decide +kernel
theorem dX7_note_5 : decode cX7_note 5 = .ok (.getfield 57, 3) := by decide +kernel
theorem dX7_note_8 : decode cX7_note 8 = .ok (.ifCond .eq 22, 3) := by decide +kernel
theorem dX7_note_11 : decode cX7_note 11 = .ok (.aload_n 0, 1) := by decide +kernel
theorem dX7_note_12 : decode cX7_note 12 = .ok (.getfield 27, 3) := by decide +kernel
theorem dX7_note_15 : decode cX7_note 15 = .ok (.iload_n 1, 1) := by decide +kernel
theorem dX7_note_16 : decode cX7_note 16 = .ok (.iconst 1, 1) := by decide +kernel
theorem dX7_note_17 : decode cX7_note 17 = .ok (.isub, 1) := by decide +kernel
theorem dX7_note_18 : decode cX7_note 18 = .ok (.iaload, 1) := by decide +kernel
theorem dX7_note_19 : decode cX7_note 19 = .ok (.aload_n 0, 1) := by decide +kernel
theorem dX7_note_20 : decode cX7_note 20 = .ok (.getfield 36, 3) := by decide +kernel
theorem dX7_note_23 : decode cX7_note 23 = .ok (.iload_n 1, 1) := by decide +kernel
theorem dX7_note_24 : decode cX7_note 24 = .ok (.iconst 1, 1) := by decide +kernel
theorem dX7_note_25 : decode cX7_note 25 = .ok (.isub, 1) := by decide +kernel
theorem dX7_note_26 : decode cX7_note 26 = .ok (.iaload, 1) := by decide +kernel
theorem dX7_note_27 : decode cX7_note 27 = .ok (.if_icmp .ge 7, 3) := by decide +kernel
theorem dX7_note_30 : decode cX7_note 30 = .ok (.iconst 1, 1) := by decide +kernel
theorem dX7_note_31 : decode cX7_note 31 = .ok (.goto 20, 3) := by decide +kernel
theorem dX7_note_34 : decode cX7_note 34 = .ok (.iconst 0, 1) := by decide +kernel
theorem dX7_note_35 : decode cX7_note 35 = .ok (.goto 16, 3) := by decide +kernel
theorem dX7_note_38 : decode cX7_note 38 = .ok (.aload_n 0, 1) := by decide +kernel
theorem dX7_note_39 : decode cX7_note 39 = .ok (.getfield 61, 3) := by decide +kernel
theorem dX7_note_42 : decode cX7_note 42 = .ok (.iload_n 3, 1) := by decide +kernel
theorem dX7_note_43 : decode cX7_note 43 = .ok (.if_icmp .ne 7, 3) := by decide +kernel
theorem dX7_note_46 : decode cX7_note 46 = .ok (.iconst 1, 1) := by decide +kernel
theorem dX7_note_47 : decode cX7_note 47 = .ok (.goto 4, 3) := by decide +kernel
theorem dX7_note_50 : decode cX7_note 50 = .ok (.iconst 0, 1) := by decide +kernel
theorem dX7_note_51 : decode cX7_note 51 = .ok (.istore 4, 2) := by decide +kernel
theorem dX7_note_53 : decode cX7_note 53 = .ok (.iload 4, 2) := by decide +kernel
theorem dX7_note_55 : decode cX7_note 55 = .ok (.ifCond .eq 37, 3) := by decide +kernel
theorem dX7_note_58 : decode cX7_note 58 = .ok (.aload_n 0, 1) := by decide +kernel
theorem dX7_note_59 : decode cX7_note 59 = .ok (.iconst 1, 1) := by decide +kernel
theorem dX7_note_60 : decode cX7_note 60 = .ok (.putfield 57, 3) := by decide +kernel
theorem dX7_note_63 : decode cX7_note 63 = .ok (.iconst 0, 1) := by decide +kernel
theorem dX7_note_64 : decode cX7_note 64 = .ok (.istore 5, 2) := by decide +kernel
theorem dX7_note_66 : decode cX7_note 66 = .ok (.iload 5, 2) := by decide +kernel
theorem dX7_note_68 : decode cX7_note 68 = .ok (.iload_n 1, 1) := by decide +kernel
theorem dX7_note_69 : decode cX7_note 69 = .ok (.if_icmp .ge 23, 3) := by decide +kernel
theorem dX7_note_72 : decode cX7_note 72 = .ok (.aload_n 0, 1) := by decide +kernel
theorem dX7_note_73 : decode cX7_note 73 = .ok (.getfield 36, 3) := by decide +kernel
theorem dX7_note_76 : decode cX7_note 76 = .ok (.iload 5, 2) := by decide +kernel
theorem dX7_note_78 : decode cX7_note 78 = .ok (.aload_n 0, 1) := by decide +kernel
theorem dX7_note_79 : decode cX7_note 79 = .ok (.getfield 27, 3) := by decide +kernel
theorem dX7_note_82 : decode cX7_note 82 = .ok (.iload 5, 2) := by decide +kernel
theorem dX7_note_84 : decode cX7_note 84 = .ok (.iaload, 1) := by decide +kernel
theorem dX7_note_85 : decode cX7_note 85 = .ok (.iastore, 1) := by decide +kernel
theorem dX7_note_86 : decode cX7_note 86 = .ok (.iinc 5 1, 3) := by decide +kernel
theorem dX7_note_89 : decode cX7_note 89 = .ok (.goto (-23), 3) := by decide +kernel
theorem dX7_note_92 : decode cX7_note 92 = .ok (.aload_n 0, 1) := by decide +kernel
theorem dX7_note_93 : decode cX7_note 93 = .ok (.dup, 1) := by decide +kernel
theorem dX7_note_94 : decode cX7_note 94 = .ok (.getfield 61, 3) := by decide +kernel
theorem dX7_note_97 : decode cX7_note 97 = .ok (.iconst 1, 1) := by decide +kernel
theorem dX7_note_98 : decode cX7_note 98 = .ok (.iadd, 1) := by decide +kernel
theorem dX7_note_99 : decode cX7_note 99 = .ok (.putfield 61, 3) := by decide +kernel
theorem dX7_note_102 : decode cX7_note 102 = .ok (.return_, 1) := by decide +kernel
set_option maxRecDepth 20000 in
theorem ggX7_search_X7_common : GoodIn wsX7_search wsX7_common := goodIn_r _ [9] (by decide +kernel) (by decide +kernel)
set_option maxRecDepth 20000 in
theorem gX7_search_X7_common : GoodIn wsX7_search (va_wsS RX7 65 yX7_common wsX7_common) := goodIn_app (goodIn_of _ (by decide +kernel)) ggX7_search_X7_common
set_option maxRecDepth 20000 in
theorem ggX7_search_X7_next : GoodIn wsX7_search wsX7_next := goodIn_r _ [13, 3, 4, 5, 14, 15, 16, 8, 17, 18, 19, 20, 21, 22, 23, 24, 25, 26, 27, 33, 34, 35, 36, 37, 38, 39, 40, 41, 42, 43, 44, 45, 46, 47, 48, 49, 50, 51, 52, 53, 54, 55] (by decide +kernel) (by decide +kernel)
set_option maxRecDepth 20000 in
theorem gX7_search_X7_next : GoodIn wsX7_search (wsV RX7 69 RX7 yX7_next wsX7_next) := goodIn_app (goodIn_of _ (by decide +kernel)) ggX7_search_X7_next
set_option maxRecDepth 20000 in
theorem ggX7_search_X7_note : GoodIn wsX7_search wsX7_note := goodIn_r _ [31, 2, 5, 32, 1, 33, 34, 35, 36, 37, 38, 39, 40, 41, 42, 43, 44, 45, 46, 47, 48, 49, 50, 51, 52, 53, 54, 55] (by decide +kernel) (by decide +kernel)
set_option maxRecDepth 20000 in
theorem gX7_search_X7_note : GoodIn wsX7_search (wsV RX7 73 RX7 yX7_note wsX7_note) := goodIn_app (goodIn_of _ (by decide +kernel)) ggX7_search_X7_note
theorem dX7_search_0 : decode cX7_search 0 = .ok (.aload_n 0, 1) := by decide +kernel
theorem dX7_search_1 : decode cX7_search 1 = .ok (.iconst 0, 1) := by decide +kernel
theorem dX7_search_2 : decode cX7_search 2 = .ok (.putfield 61, 3) := by decide +kernel
theorem dX7_search_5 : decode cX7_search 5 = .ok (.aload_n 0, 1) := by decide +kernel
theorem dX7_search_6 : decode cX7_search 6 = .ok (.iconst 0, 1) := by decide +kernel
theorem dX7_search_7 : decode cX7_search 7 = .ok (.putfield 57, 3) := by decide +kernel
theorem dX7_search_10 : decode cX7_search 10 = .ok (.aload_n 0, 1) := by decide +kernel
theorem dX7_search_11 : decode cX7_search 11 = .ok (.getfield 30, 3) := by decide +kernel
theorem dX7_search_14 : decode cX7_search 14 = .ok (.iconst 0, 1) := by decide +kernel
theorem dX7_search_15 : decode cX7_search 15 = .ok (.iload_n 1, 1) := by decide +kernel
theorem dX7_search_16 : decode cX7_search 16 = .ok (.i2l, 1) := by decide +kernel
theorem dX7_search_17 : decode cX7_search 17 = .ok (.iload_n 1, 1) := by decide +kernel
theorem dX7_search_18 : decode cX7_search 18 = .ok (.i2l, 1) := by decide +kernel
theorem dX7_search_19 : decode cX7_search 19 = .ok (.iload_n 2, 1) := by decide +kernel
theorem dX7_search_20 : decode cX7_search 20 = .ok (.i2l, 1) := by decide +kernel
theorem dX7_search_21 : decode cX7_search 21 = .ok (.invokestatic 65, 3) := by decide +kernel
theorem dX7_search_24 : decode cX7_search 24 = .ok (.ldiv, 1) := by decide +kernel
theorem dX7_search_25 : decode cX7_search 25 = .ok (.lastore, 1) := by decide +kernel
theorem dX7_search_26 : decode cX7_search 26 = .ok (.aload_n 0, 1) := by decide +kernel
theorem dX7_search_27 : decode cX7_search 27 = .ok (.getfield 33, 3) := by decide +kernel
theorem dX7_search_30 : decode cX7_search 30 = .ok (.iconst 0, 1) := by decide +kernel
theorem dX7_search_31 : decode cX7_search 31 = .ok (.iload_n 2, 1) := by decide +kernel
theorem dX7_search_32 : decode cX7_search 32 = .ok (.i2l, 1) := by decide +kernel
theorem dX7_search_33 : decode cX7_search 33 = .ok (.iload_n 1, 1) := by decide +kernel
theorem dX7_search_34 : decode cX7_search 34 = .ok (.i2l, 1) := by decide +kernel
theorem dX7_search_35 : decode cX7_search 35 = .ok (.iload_n 2, 1) := by decide +kernel
theorem dX7_search_36 : decode cX7_search 36 = .ok (.i2l, 1) := by decide +kernel
theorem dX7_search_37 : decode cX7_search 37 = .ok (.invokestatic 65, 3) := by decide +kernel
theorem dX7_search_40 : decode cX7_search 40 = .ok (.ldiv, 1) := by decide +kernel
theorem dX7_search_41 : decode cX7_search 41 = .ok (.lastore, 1) := by decide +kernel
theorem dX7_search_42 : decode cX7_search 42 = .ok (.iconst 0, 1) := by decide +kernel
theorem dX7_search_43 : decode cX7_search 43 = .ok (.istore 8, 2) := by decide +kernel
theorem dX7_search_45 : decode cX7_search 45 = .ok (.aload_n 0, 1) := by decide +kernel
theorem dX7_search_46 : decode cX7_search 46 = .ok (.getfield 27, 3) := by decide +kernel
theorem dX7_search_49 : decode cX7_search 49 = .ok (.iconst 0, 1) := by decide +kernel
theorem dX7_search_50 : decode cX7_search 50 = .ok (.iconst 0, 1) := by decide +kernel
theorem dX7_search_51 : decode cX7_search 51 = .ok (.iastore, 1) := by decide +kernel
theorem dX7_search_52 : decode cX7_search 52 = .ok (.iload 8, 2) := by decide +kernel
theorem dX7_search_54 : decode cX7_search 54 = .ok (.ifCond .lt 163, 3) := by decide +kernel
theorem dX7_search_57 : decode cX7_search 57 = .ok (.iload 8, 2) := by decide +kernel
theorem dX7_search_59 : decode cX7_search 59 = .ok (.iload_n 3, 1) := by decide +kernel
theorem dX7_search_60 : decode cX7_search 60 = .ok (.iconst 1, 1) := by decide +kernel
theorem dX7_search_61 : decode cX7_search 61 = .ok (.isub, 1) := by decide +kernel
theorem dX7_search_62 : decode cX7_search 62 = .ok (.if_icmp .ne 17, 3) := by decide +kernel
theorem dX7_search_65 : decode cX7_search 65 = .ok (.aload_n 0, 1) := by decide +kernel
theorem dX7_search_66 : decode cX7_search 66 = .ok (.getfield 27, 3) := by decide +kernel
theorem dX7_search_69 : decode cX7_search 69 = .ok (.iload 8, 2) := by decide +kernel
theorem dX7_search_71 : decode cX7_search 71 = .ok (.iaload, 1) := by decide +kernel
theorem dX7_search_72 : decode cX7_search 72 = .ok (.ifCond .le 7, 3) := by decide +kernel
theorem dX7_search_75 : decode cX7_search 75 = .ok (.iconst 0, 1) := by decide +kernel
theorem dX7_search_76 : decode cX7_search 76 = .ok (.goto 14, 3) := by decide +kernel
theorem dX7_search_79 : decode cX7_search 79 = .ok (.aload_n 0, 1) := by decide +kernel
theorem dX7_search_80 : decode cX7_search 80 = .ok (.iload 8, 2) := by decide +kernel
theorem dX7_search_82 : decode cX7_search 82 = .ok (.iload_n 3, 1) := by decide +kernel
theorem dX7_search_83 : decode cX7_search 83 = .ok (.iload 4, 2) := by decide +kernel
theorem dX7_search_85 : decode cX7_search 85 = .ok (.iload 5, 2) := by decide +kernel
theorem dX7_search_87 : decode cX7_search 87 = .ok (.invokevirtual 69, 3) := by decide +kernel
theorem dX7_search_90 : decode cX7_search 90 = .ok (.istore 9, 2) := by decide +kernel
theorem dX7_search_92 : decode cX7_search 92 = .ok (.iload 9, 2) := by decide +kernel
theorem dX7_search_94 : decode cX7_search 94 = .ok (.ifCond .ne 9, 3) := by decide +kernel
theorem dX7_search_97 : decode cX7_search 97 = .ok (.iinc 8 (-1), 3) := by decide +kernel
theorem dX7_search_100 : decode cX7_search 100 = .ok (.goto 114, 3) := by decide +kernel
theorem dX7_search_103 : decode cX7_search 103 = .ok (.aload_n 0, 1) := by decide +kernel
theorem dX7_search_104 : decode cX7_search 104 = .ok (.getfield 27, 3) := by decide +kernel
theorem dX7_search_107 : decode cX7_search 107 = .ok (.iload 8, 2) := by decide +kernel
theorem dX7_search_109 : decode cX7_search 109 = .ok (.iload 9, 2) := by decide +kernel
theorem dX7_search_111 : decode cX7_search 111 = .ok (.iastore, 1) := by decide +kernel
theorem dX7_search_112 : decode cX7_search 112 = .ok (.iload 8, 2) := by decide +kernel
theorem dX7_search_114 : decode cX7_search 114 = .ok (.iload_n 3, 1) := by decide +kernel
theorem dX7_search_115 : decode cX7_search 115 = .ok (.iconst 1, 1) := by decide +kernel
theorem dX7_search_116 : decode cX7_search 116 = .ok (.isub, 1) := by decide +kernel
theorem dX7_search_117 : decode cX7_search 117 = .ok (.if_icmp .ne 15, 3) := by decide +kernel
theorem dX7_search_120 : decode cX7_search 120 = .ok (.aload_n 0, 1) := by decide +kernel
theorem dX7_search_121 : decode cX7_search 121 = .ok (.iload_n 3, 1) := by decide +kernel
theorem dX7_search_122 : decode cX7_search 122 = .ok (.iload 6, 2) := by decide +kernel
theorem dX7_search_124 : decode cX7_search 124 = .ok (.iload 7, 2) := by decide +kernel
theorem dX7_search_126 : decode cX7_search 126 = .ok (.invokevirtual 73, 3) := by decide +kernel
theorem dX7_search_129 : decode cX7_search 129 = .ok (.goto 85, 3) := by decide +kernel
theorem dX7_search_132 : decode cX7_search 132 = .ok (.aload_n 0, 1) := by decide +kernel
theorem dX7_search_133 : decode cX7_search 133 = .ok (.getfield 30, 3) := by decide +kernel
theorem dX7_search_136 : decode cX7_search 136 = .ok (.iload 8, 2) := by decide +kernel
theorem dX7_search_138 : decode cX7_search 138 = .ok (.laload, 1) := by decide +kernel
theorem dX7_search_139 : decode cX7_search 139 = .ok (.iload 9, 2) := by decide +kernel
theorem dX7_search_141 : decode cX7_search 141 = .ok (.i2l, 1) := by decide +kernel
theorem dX7_search_142 : decode cX7_search 142 = .ok (.lmul, 1) := by decide +kernel
theorem dX7_search_143 : decode cX7_search 143 = .ok (.aload_n 0, 1) := by decide +kernel
theorem dX7_search_144 : decode cX7_search 144 = .ok (.getfield 33, 3) := by decide +kernel
theorem dX7_search_147 : decode cX7_search 147 = .ok (.iload 8, 2) := by decide +kernel
theorem dX7_search_149 : decode cX7_search 149 = .ok (.laload, 1) := by decide +kernel
theorem dX7_search_150 : decode cX7_search 150 = .ok (.lsub, 1) := by decide +kernel
theorem dX7_search_151 : decode cX7_search 151 = .ok (.lstore 10, 2) := by decide +kernel
theorem dX7_search_153 : decode cX7_search 153 = .ok (.aload_n 0, 1) := by decide +kernel
theorem dX7_search_154 : decode cX7_search 154 = .ok (.getfield 33, 3) := by decide +kernel
theorem dX7_search_157 : decode cX7_search 157 = .ok (.iload 8, 2) := by decide +kernel
theorem dX7_search_159 : decode cX7_search 159 = .ok (.laload, 1) := by decide +kernel
theorem dX7_search_160 : decode cX7_search 160 = .ok (.iload 9, 2) := by decide +kernel
theorem dX7_search_162 : decode cX7_search 162 = .ok (.i2l, 1) := by decide +kernel
theorem dX7_search_163 : decode cX7_search 163 = .ok (.lmul, 1) := by decide +kernel
theorem dX7_search_164 : decode cX7_search 164 = .ok (.lstore 12, 2) := by decide +kernel
theorem dX7_search_166 : decode cX7_search 166 = .ok (.lload 10, 2) := by decide +kernel
theorem dX7_search_168 : decode cX7_search 168 = .ok (.lload 12, 2) := by decide +kernel
theorem dX7_search_170 : decode cX7_search 170 = .ok (.invokestatic 65, 3) := by decide +kernel
theorem dX7_search_173 : decode cX7_search 173 = .ok (.lstore 14, 2) := by decide +kernel
theorem dX7_search_175 : decode cX7_search 175 = .ok (.aload_n 0, 1) := by decide +kernel
theorem dX7_search_176 : decode cX7_search 176 = .ok (.getfield 30, 3) := by decide +kernel
theorem dX7_search_179 : decode cX7_search 179 = .ok (.iload 8, 2) := by decide +kernel
theorem dX7_search_181 : decode cX7_search 181 = .ok (.iconst 1, 1) := by decide +kernel
theorem dX7_search_182 : decode cX7_search 182 = .ok (.iadd, 1) := by decide +kernel
theorem dX7_search_183 : decode cX7_search 183 = .ok (.lload 10, 2) := by decide +kernel
theorem dX7_search_185 : decode cX7_search 185 = .ok (.lload 14, 2) := by decide +kernel
theorem dX7_search_187 : decode cX7_search 187 = .ok (.ldiv, 1) := by decide +kernel
theorem dX7_search_188 : decode cX7_search 188 = .ok (.lastore, 1) := by decide +kernel
theorem dX7_search_189 : decode cX7_search 189 = .ok (.aload_n 0, 1) := by decide +kernel
theorem dX7_search_190 : decode cX7_search 190 = .ok (.getfield 33, 3) := by decide +kernel
theorem dX7_search_193 : decode cX7_search 193 = .ok (.iload 8, 2) := by decide +kernel
theorem dX7_search_195 : decode cX7_search 195 = .ok (.iconst 1, 1) := by decide +kernel
theorem dX7_search_196 : decode cX7_search 196 = .ok (.iadd, 1) := by decide +kernel
theorem dX7_search_197 : decode cX7_search 197 = .ok (.lload 12, 2) := by decide +kernel
theorem dX7_search_199 : decode cX7_search 199 = .ok (.lload 14, 2) := by decide +kernel
theorem dX7_search_201 : decode cX7_search 201 = .ok (.ldiv, 1) := by decide +kernel
theorem dX7_search_202 : decode cX7_search 202 = .ok (.lastore, 1) := by decide +kernel
theorem dX7_search_203 : decode cX7_search 203 = .ok (.iinc 8 1, 3) := by decide +kernel
theorem dX7_search_206 : decode cX7_search 206 = .ok (.aload_n 0, 1) := by decide +kernel
theorem dX7_search_207 : decode cX7_search 207 = .ok (.getfield 27, 3) := by decide +kernel
theorem dX7_search_210 : decode cX7_search 210 = .ok (.iload 8, 2) := by decide +kernel
theorem dX7_search_212 : decode cX7_search 212 = .ok (.iconst 0, 1) := by decide +kernel
theorem dX7_search_213 : decode cX7_search 213 = .ok (.iastore, 1) := by decide +kernel
theorem dX7_search_214 : decode cX7_search 214 = .ok (.goto (-162), 3) := by decide +kernel
theorem dX7_search_217 : decode cX7_search 217 = .ok (.return_, 1) := by decide +kernel
set_option maxRecDepth 20000 in
theorem ggX7_barred_X7_isFraction : GoodIn wsX7_barred wsX7_isFraction := goodIn_r _ [5, 6, 7, 4, 8] (by decide +kernel) (by decide +kernel)
set_option maxRecDepth 20000 in
theorem gX7_barred_X7_isFraction : GoodIn wsX7_barred (va_wsS RX7 77 yX7_isFraction wsX7_isFraction) := goodIn_app (goodIn_of _ (by decide +kernel)) ggX7_barred_X7_isFraction
set_option maxRecDepth 20000 in
theorem ggX7_barred_X7_in : GoodIn wsX7_barred wsX7_in := goodIn_r _ [8] (by decide +kernel) (by decide +kernel)
set_option maxRecDepth 20000 in
theorem gX7_barred_X7_in : GoodIn wsX7_barred (va_wsS RX7 39 yX7_in wsX7_in) := goodIn_app (goodIn_of _ (by decide +kernel)) ggX7_barred_X7_in
theorem dX7_barred_0 : decode cX7_barred 0 = .ok (.iload_n 1, 1) := by decide +kernel
theorem dX7_barred_1 : decode cX7_barred 1 = .ok (.iload_n 2, 1) := by decide +kernel
theorem dX7_barred_2 : decode cX7_barred 2 = .ok (.invokestatic 77, 3) := by decide +kernel
theorem dX7_barred_5 : decode cX7_barred 5 = .ok (.ifCond .eq 33, 3) := by decide +kernel
theorem dX7_barred_8 : decode cX7_barred 8 = .ok (.iload_n 3, 1) := by decide +kernel
theorem dX7_barred_9 : decode cX7_barred 9 = .ok (.iconst 1, 1) := by decide +kernel
theorem dX7_barred_10 : decode cX7_barred 10 = .ok (.iconst 5, 1) := by decide +kernel
theorem dX7_barred_11 : decode cX7_barred 11 = .ok (.invokestatic 39, 3) := by decide +kernel
theorem dX7_barred_14 : decode cX7_barred 14 = .ok (.ifCond .eq 24, 3) := by decide +kernel
theorem dX7_barred_17 : decode cX7_barred 17 = .ok (.iload 4, 2) := by decide +kernel
theorem dX7_barred_19 : decode cX7_barred 19 = .ok (.iconst 0, 1) := by decide +kernel
theorem dX7_barred_20 : decode cX7_barred 20 = .ok (.iconst 5, 1) := by decide +kernel
theorem dX7_barred_21 : decode cX7_barred 21 = .ok (.invokestatic 39, 3) := by decide +kernel
theorem dX7_barred_24 : decode cX7_barred 24 = .ok (.ifCond .eq 14, 3) := by decide +kernel
theorem dX7_barred_27 : decode cX7_barred 27 = .ok (.iload 5, 2) := by decide +kernel
theorem dX7_barred_29 : decode cX7_barred 29 = .ok (.iconst 2, 1) := by decide +kernel
theorem dX7_barred_30 : decode cX7_barred 30 = .ok (.bipush 120, 2) := by decide +kernel
theorem dX7_barred_32 : decode cX7_barred 32 = .ok (.invokestatic 39, 3) := by decide +kernel
theorem dX7_barred_35 : decode cX7_barred 35 = .ok (.ifCond .ne 6, 3) := by decide +kernel
theorem dX7_barred_38 : decode cX7_barred 38 = .ok (.bipush (-102), 2) := by decide +kernel
theorem dX7_barred_40 : decode cX7_barred 40 = .ok (.ireturn, 1) := by decide +kernel
theorem dX7_barred_41 : decode cX7_barred 41 = .ok (.aload_n 0, 1) := by decide +kernel
theorem dX7_barred_42 : decode cX7_barred 42 = .ok (.getfield 80, 3) := by decide +kernel
theorem dX7_barred_45 : decode cX7_barred 45 = .ok (.bipush 60, 2) := by decide +kernel
theorem dX7_barred_47 : decode cX7_barred 47 = .ok (.if_icmp .ne 8, 3) := by decide +kernel
theorem dX7_barred_50 : decode cX7_barred 50 = .ok (.bipush (-104), 2) := by decide +kernel
theorem dX7_barred_52 : decode cX7_barred 52 = .ok (.goto 4, 3) := by decide +kernel
theorem dX7_barred_55 : decode cX7_barred 55 = .ok (.iconst 0, 1) := by decide +kernel
theorem dX7_barred_56 : decode cX7_barred 56 = .ok (.ireturn, 1) := by decide +kernel
set_option maxRecDepth 20000 in
theorem ggX7_fewest_X7_barred : GoodIn wsX7_fewest wsX7_barred := goodIn_r _ [7, 1, 8, 9, 6, 10, 11, 12, 13, 48, 49, 50, 51, 52, 53, 54, 55, 56, 57, 58, 59, 60, 61, 62, 63, 64, 65, 66, 67, 68, 69, 70] (by decide +kernel) (by decide +kernel)
set_option maxRecDepth 20000 in
theorem gX7_fewest_X7_barred : GoodIn wsX7_fewest (wsV RX7 83 RX7 yX7_barred wsX7_barred) := goodIn_app (goodIn_of _ (by decide +kernel)) ggX7_fewest_X7_barred
set_option maxRecDepth 20000 in
theorem ggX7_fewest_X7_search : GoodIn wsX7_fewest wsX7_search := goodIn_r _ [17, 2, 18, 19, 20, 21, 22, 23, 6, 24, 25, 26, 27, 28, 29, 30, 31, 32, 33, 34, 35, 36, 37, 38, 39, 40, 41, 42, 43, 44, 45, 46, 47, 48, 49, 50, 51, 52, 53, 54, 55, 56, 57, 58, 59, 60, 61, 62, 63, 64, 65, 66, 67, 68, 69, 70] (by decide +kernel) (by decide +kernel)
set_option maxRecDepth 20000 in
theorem gX7_fewest_X7_search : GoodIn wsX7_fewest (wsV RX7 87 RX7 yX7_search wsX7_search) := goodIn_app (goodIn_of _ (by decide +kernel)) ggX7_fewest_X7_search
theorem dX7_fewest_0 : decode cX7_fewest 0 = .ok (.aload_n 0, 1) := by decide +kernel
theorem dX7_fewest_1 : decode cX7_fewest 1 = .ok (.iload_n 1, 1) := by decide +kernel
theorem dX7_fewest_2 : decode cX7_fewest 2 = .ok (.iload_n 2, 1) := by decide +kernel
theorem dX7_fewest_3 : decode cX7_fewest 3 = .ok (.iconst 1, 1) := by decide +kernel
theorem dX7_fewest_4 : decode cX7_fewest 4 = .ok (.iload_n 3, 1) := by decide +kernel
theorem dX7_fewest_5 : decode cX7_fewest 5 = .ok (.iload 4, 2) := by decide +kernel
theorem dX7_fewest_7 : decode cX7_fewest 7 = .ok (.invokevirtual 83, 3) := by decide +kernel
theorem dX7_fewest_10 : decode cX7_fewest 10 = .ok (.istore 5, 2) := by decide +kernel
theorem dX7_fewest_12 : decode cX7_fewest 12 = .ok (.iload 5, 2) := by decide +kernel
theorem dX7_fewest_14 : decode cX7_fewest 14 = .ok (.ifCond .eq 6, 3) := by decide +kernel
theorem dX7_fewest_17 : decode cX7_fewest 17 = .ok (.iload 5, 2) := by decide +kernel
theorem dX7_fewest_19 : decode cX7_fewest 19 = .ok (.ireturn, 1) := by decide +kernel
theorem dX7_fewest_20 : decode cX7_fewest 20 = .ok (.aload_n 0, 1) := by decide +kernel
theorem dX7_fewest_21 : decode cX7_fewest 21 = .ok (.dup, 1) := by decide +kernel
theorem dX7_fewest_22 : decode cX7_fewest 22 = .ok (.getfield 80, 3) := by decide +kernel
theorem dX7_fewest_25 : decode cX7_fewest 25 = .ok (.iconst 1, 1) := by decide +kernel
theorem dX7_fewest_26 : decode cX7_fewest 26 = .ok (.iadd, 1) := by decide +kernel
theorem dX7_fewest_27 : decode cX7_fewest 27 = .ok (.putfield 80, 3) := by decide +kernel
theorem dX7_fewest_30 : decode cX7_fewest 30 = .ok (.iconst 1, 1) := by decide +kernel
theorem dX7_fewest_31 : decode cX7_fewest 31 = .ok (.istore 6, 2) := by decide +kernel
theorem dX7_fewest_33 : decode cX7_fewest 33 = .ok (.iload 6, 2) := by decide +kernel
theorem dX7_fewest_35 : decode cX7_fewest 35 = .ok (.iconst 5, 1) := by decide +kernel
theorem dX7_fewest_36 : decode cX7_fewest 36 = .ok (.if_icmp .gt 32, 3) := by decide +kernel
theorem dX7_fewest_39 : decode cX7_fewest 39 = .ok (.aload_n 0, 1) := by decide +kernel
theorem dX7_fewest_40 : decode cX7_fewest 40 = .ok (.iload_n 1, 1) := by decide +kernel
theorem dX7_fewest_41 : decode cX7_fewest 41 = .ok (.iload_n 2, 1) := by decide +kernel
theorem dX7_fewest_42 : decode cX7_fewest 42 = .ok (.iload 6, 2) := by decide +kernel
theorem dX7_fewest_44 : decode cX7_fewest 44 = .ok (.iload_n 3, 1) := by decide +kernel
theorem dX7_fewest_45 : decode cX7_fewest 45 = .ok (.iload 4, 2) := by decide +kernel
theorem dX7_fewest_47 : decode cX7_fewest 47 = .ok (.iconst 0, 1) := by decide +kernel
theorem dX7_fewest_48 : decode cX7_fewest 48 = .ok (.iconst (-1), 1) := by decide +kernel
theorem dX7_fewest_49 : decode cX7_fewest 49 = .ok (.invokevirtual 87, 3) := by decide +kernel
theorem dX7_fewest_52 : decode cX7_fewest 52 = .ok (.aload_n 0, 1) := by decide +kernel
theorem dX7_fewest_53 : decode cX7_fewest 53 = .ok (.getfield 61, 3) := by decide +kernel
theorem dX7_fewest_56 : decode cX7_fewest 56 = .ok (.ifCond .le 6, 3) := by decide +kernel
theorem dX7_fewest_59 : decode cX7_fewest 59 = .ok (.iload 6, 2) := by decide +kernel
theorem dX7_fewest_61 : decode cX7_fewest 61 = .ok (.ireturn, 1) := by decide +kernel
theorem dX7_fewest_62 : decode cX7_fewest 62 = .ok (.iinc 6 1, 3) := by decide +kernel
theorem dX7_fewest_65 : decode cX7_fewest 65 = .ok (.goto (-32), 3) := by decide +kernel
theorem dX7_fewest_68 : decode cX7_fewest 68 = .ok (.iconst (-1), 1) := by decide +kernel
theorem dX7_fewest_69 : decode cX7_fewest 69 = .ok (.ireturn, 1) := by decide +kernel
set_option maxRecDepth 20000 in
theorem ggX7_ways_X7_barred : GoodIn wsX7_ways wsX7_barred := goodIn_r _ [7, 1, 8, 9, 6, 10, 11, 12, 13, 48, 49, 50, 51, 52, 53, 54, 55, 56, 57, 58, 59, 60, 61, 62, 63, 64, 65, 66, 67, 68, 69, 70] (by decide +kernel) (by decide +kernel)
set_option maxRecDepth 20000 in
theorem gX7_ways_X7_barred : GoodIn wsX7_ways (wsV RX7 83 RX7 yX7_barred wsX7_barred) := goodIn_app (goodIn_of _ (by decide +kernel)) ggX7_ways_X7_barred
set_option maxRecDepth 20000 in
theorem ggX7_ways_X7_search : GoodIn wsX7_ways wsX7_search := goodIn_r _ [17, 2, 18, 19, 20, 21, 22, 23, 6, 24, 25, 26, 27, 28, 29, 30, 31, 32, 33, 34, 35, 36, 37, 38, 39, 40, 41, 42, 43, 44, 45, 46, 47, 48, 49, 50, 51, 52, 53, 54, 55, 56, 57, 58, 59, 60, 61, 62, 63, 64, 65, 66, 67, 68, 69, 70] (by decide +kernel) (by decide +kernel)
set_option maxRecDepth 20000 in
theorem gX7_ways_X7_search : GoodIn wsX7_ways (wsV RX7 87 RX7 yX7_search wsX7_search) := goodIn_app (goodIn_of _ (by decide +kernel)) ggX7_ways_X7_search
theorem dX7_ways_0 : decode cX7_ways 0 = .ok (.aload_n 0, 1) := by decide +kernel
theorem dX7_ways_1 : decode cX7_ways 1 = .ok (.iload_n 1, 1) := by decide +kernel
theorem dX7_ways_2 : decode cX7_ways 2 = .ok (.iload_n 2, 1) := by decide +kernel
theorem dX7_ways_3 : decode cX7_ways 3 = .ok (.iload_n 3, 1) := by decide +kernel
theorem dX7_ways_4 : decode cX7_ways 4 = .ok (.iload 4, 2) := by decide +kernel
theorem dX7_ways_6 : decode cX7_ways 6 = .ok (.iload 5, 2) := by decide +kernel
theorem dX7_ways_8 : decode cX7_ways 8 = .ok (.invokevirtual 83, 3) := by decide +kernel
theorem dX7_ways_11 : decode cX7_ways 11 = .ok (.istore 6, 2) := by decide +kernel
theorem dX7_ways_13 : decode cX7_ways 13 = .ok (.iload 6, 2) := by decide +kernel
theorem dX7_ways_15 : decode cX7_ways 15 = .ok (.ifCond .eq 6, 3) := by decide +kernel
theorem dX7_ways_18 : decode cX7_ways 18 = .ok (.iload 6, 2) := by decide +kernel
theorem dX7_ways_20 : decode cX7_ways 20 = .ok (.ireturn, 1) := by decide +kernel
theorem dX7_ways_21 : decode cX7_ways 21 = .ok (.aload_n 0, 1) := by decide +kernel
theorem dX7_ways_22 : decode cX7_ways 22 = .ok (.dup, 1) := by decide +kernel
theorem dX7_ways_23 : decode cX7_ways 23 = .ok (.getfield 80, 3) := by decide +kernel
theorem dX7_ways_26 : decode cX7_ways 26 = .ok (.iconst 1, 1) := by decide +kernel
theorem dX7_ways_27 : decode cX7_ways 27 = .ok (.iadd, 1) := by decide +kernel
theorem dX7_ways_28 : decode cX7_ways 28 = .ok (.putfield 80, 3) := by decide +kernel
theorem dX7_ways_31 : decode cX7_ways 31 = .ok (.aload_n 0, 1) := by decide +kernel
theorem dX7_ways_32 : decode cX7_ways 32 = .ok (.iload_n 1, 1) := by decide +kernel
theorem dX7_ways_33 : decode cX7_ways 33 = .ok (.iload_n 2, 1) := by decide +kernel
theorem dX7_ways_34 : decode cX7_ways 34 = .ok (.iload_n 3, 1) := by decide +kernel
theorem dX7_ways_35 : decode cX7_ways 35 = .ok (.iload 4, 2) := by decide +kernel
theorem dX7_ways_37 : decode cX7_ways 37 = .ok (.iload 5, 2) := by decide +kernel
theorem dX7_ways_39 : decode cX7_ways 39 = .ok (.iconst 0, 1) := by decide +kernel
theorem dX7_ways_40 : decode cX7_ways 40 = .ok (.iconst (-1), 1) := by decide +kernel
theorem dX7_ways_41 : decode cX7_ways 41 = .ok (.invokevirtual 87, 3) := by decide +kernel
theorem dX7_ways_44 : decode cX7_ways 44 = .ok (.aload_n 0, 1) := by decide +kernel
theorem dX7_ways_45 : decode cX7_ways 45 = .ok (.getfield 61, 3) := by decide +kernel
theorem dX7_ways_48 : decode cX7_ways 48 = .ok (.ireturn, 1) := by decide +kernel
theorem dX7_hold_0 : decode cX7_hold 0 = .ok (.aload_n 0, 1) := by decide +kernel
theorem dX7_hold_1 : decode cX7_hold 1 = .ok (.getfield 57, 3) := by decide +kernel
theorem dX7_hold_4 : decode cX7_hold 4 = .ok (.ifCond .ne 5, 3) := by decide +kernel
theorem dX7_hold_7 : decode cX7_hold 7 = .ok (.iconst (-1), 1) := by decide +kernel
theorem dX7_hold_8 : decode cX7_hold 8 = .ok (.ireturn, 1) := by decide +kernel
theorem dX7_hold_9 : decode cX7_hold 9 = .ok (.aload_n 0, 1) := by decide +kernel
theorem dX7_hold_10 : decode cX7_hold 10 = .ok (.iload_n 1, 1) := by decide +kernel
theorem dX7_hold_11 : decode cX7_hold 11 = .ok (.putfield 91, 3) := by decide +kernel
theorem dX7_hold_14 : decode cX7_hold 14 = .ok (.iconst 0, 1) := by decide +kernel
theorem dX7_hold_15 : decode cX7_hold 15 = .ok (.istore_n 2, 1) := by decide +kernel
theorem dX7_hold_16 : decode cX7_hold 16 = .ok (.iload_n 2, 1) := by decide +kernel
theorem dX7_hold_17 : decode cX7_hold 17 = .ok (.iload_n 1, 1) := by decide +kernel
theorem dX7_hold_18 : decode cX7_hold 18 = .ok (.if_icmp .ge 21, 3) := by decide +kernel
theorem dX7_hold_21 : decode cX7_hold 21 = .ok (.aload_n 0, 1) := by decide +kernel
theorem dX7_hold_22 : decode cX7_hold 22 = .ok (.getfield 13, 3) := by decide +kernel
theorem dX7_hold_25 : decode cX7_hold 25 = .ok (.iload_n 2, 1) := by decide +kernel
theorem dX7_hold_26 : decode cX7_hold 26 = .ok (.aload_n 0, 1) := by decide +kernel
theorem dX7_hold_27 : decode cX7_hold 27 = .ok (.getfield 36, 3) := by decide +kernel
theorem dX7_hold_30 : decode cX7_hold 30 = .ok (.iload_n 2, 1) := by decide +kernel
theorem dX7_hold_31 : decode cX7_hold 31 = .ok (.iaload, 1) := by decide +kernel
theorem dX7_hold_32 : decode cX7_hold 32 = .ok (.iastore, 1) := by decide +kernel
theorem dX7_hold_33 : decode cX7_hold 33 = .ok (.iinc 2 1, 3) := by decide +kernel
theorem dX7_hold_36 : decode cX7_hold 36 = .ok (.goto (-20), 3) := by decide +kernel
theorem dX7_hold_39 : decode cX7_hold 39 = .ok (.iconst 1, 1) := by decide +kernel
theorem dX7_hold_40 : decode cX7_hold 40 = .ok (.ireturn, 1) := by decide +kernel
set_option maxRecDepth 20000 in
theorem ggX7_take_X7_barred : GoodIn wsX7_take wsX7_barred := goodIn_r _ [6, 1, 7, 8, 5, 9, 10, 11, 12, 54, 55, 56, 57, 58, 59, 60, 61, 62, 63, 64, 65, 66, 67, 68, 69, 70, 71, 72, 73, 74, 75, 76] (by decide +kernel) (by decide +kernel)
set_option maxRecDepth 20000 in
theorem gX7_take_X7_barred : GoodIn wsX7_take (wsV RX7 83 RX7 yX7_barred wsX7_barred) := goodIn_app (goodIn_of _ (by decide +kernel)) ggX7_take_X7_barred
set_option maxRecDepth 20000 in
theorem ggX7_take_X7_search : GoodIn wsX7_take wsX7_search := goodIn_r _ [16, 17, 18, 19, 20, 21, 22, 23, 5, 24, 25, 26, 27, 28, 29, 30, 31, 32, 33, 34, 35, 36, 37, 38, 39, 40, 41, 42, 43, 44, 45, 46, 47, 54, 55, 56, 57, 58, 59, 60, 61, 62, 63, 64, 65, 66, 67, 68, 69, 70, 71, 72, 73, 74, 75, 76] (by decide +kernel) (by decide +kernel)
set_option maxRecDepth 20000 in
theorem gX7_take_X7_search : GoodIn wsX7_take (wsV RX7 87 RX7 yX7_search wsX7_search) := goodIn_app (goodIn_of _ (by decide +kernel)) ggX7_take_X7_search
set_option maxRecDepth 20000 in
theorem ggX7_take_X7_hold : GoodIn wsX7_take wsX7_hold := goodIn_r _ [51, 18, 52, 53, 47, 54, 55, 56, 57, 58, 59, 60, 61, 62, 63, 64, 65, 66, 67, 68, 69, 70, 71, 72, 73, 74, 75, 76] (by decide +kernel) (by decide +kernel)
set_option maxRecDepth 20000 in
theorem gX7_take_X7_hold : GoodIn wsX7_take (wsV RX7 94 RX7 yX7_hold wsX7_hold) := goodIn_app (goodIn_of _ (by decide +kernel)) ggX7_take_X7_hold
theorem dX7_take_0 : decode cX7_take 0 = .ok (.aload_n 0, 1) := by decide +kernel
theorem dX7_take_1 : decode cX7_take 1 = .ok (.iload_n 1, 1) := by decide +kernel
theorem dX7_take_2 : decode cX7_take 2 = .ok (.iload_n 2, 1) := by decide +kernel
theorem dX7_take_3 : decode cX7_take 3 = .ok (.iload_n 3, 1) := by decide +kernel
theorem dX7_take_4 : decode cX7_take 4 = .ok (.iload 4, 2) := by decide +kernel
theorem dX7_take_6 : decode cX7_take 6 = .ok (.iload 5, 2) := by decide +kernel
theorem dX7_take_8 : decode cX7_take 8 = .ok (.invokevirtual 83, 3) := by decide +kernel
theorem dX7_take_11 : decode cX7_take 11 = .ok (.istore 7, 2) := by decide +kernel
theorem dX7_take_13 : decode cX7_take 13 = .ok (.iload 7, 2) := by decide +kernel
theorem dX7_take_15 : decode cX7_take 15 = .ok (.ifCond .eq 6, 3) := by decide +kernel
theorem dX7_take_18 : decode cX7_take 18 = .ok (.iload 7, 2) := by decide +kernel
theorem dX7_take_20 : decode cX7_take 20 = .ok (.ireturn, 1) := by decide +kernel
theorem dX7_take_21 : decode cX7_take 21 = .ok (.aload_n 0, 1) := by decide +kernel
theorem dX7_take_22 : decode cX7_take 22 = .ok (.dup, 1) := by decide +kernel
theorem dX7_take_23 : decode cX7_take 23 = .ok (.getfield 80, 3) := by decide +kernel
theorem dX7_take_26 : decode cX7_take 26 = .ok (.iconst 1, 1) := by decide +kernel
theorem dX7_take_27 : decode cX7_take 27 = .ok (.iadd, 1) := by decide +kernel
theorem dX7_take_28 : decode cX7_take 28 = .ok (.putfield 80, 3) := by decide +kernel
theorem dX7_take_31 : decode cX7_take 31 = .ok (.aload_n 0, 1) := by decide +kernel
theorem dX7_take_32 : decode cX7_take 32 = .ok (.iload_n 1, 1) := by decide +kernel
theorem dX7_take_33 : decode cX7_take 33 = .ok (.iload_n 2, 1) := by decide +kernel
theorem dX7_take_34 : decode cX7_take 34 = .ok (.iload_n 3, 1) := by decide +kernel
theorem dX7_take_35 : decode cX7_take 35 = .ok (.iload 4, 2) := by decide +kernel
theorem dX7_take_37 : decode cX7_take 37 = .ok (.iload 5, 2) := by decide +kernel
theorem dX7_take_39 : decode cX7_take 39 = .ok (.iconst 0, 1) := by decide +kernel
theorem dX7_take_40 : decode cX7_take 40 = .ok (.iload 6, 2) := by decide +kernel
theorem dX7_take_42 : decode cX7_take 42 = .ok (.invokevirtual 87, 3) := by decide +kernel
theorem dX7_take_45 : decode cX7_take 45 = .ok (.aload_n 0, 1) := by decide +kernel
theorem dX7_take_46 : decode cX7_take 46 = .ok (.iload_n 3, 1) := by decide +kernel
theorem dX7_take_47 : decode cX7_take 47 = .ok (.invokevirtual 94, 3) := by decide +kernel
theorem dX7_take_50 : decode cX7_take 50 = .ok (.ireturn, 1) := by decide +kernel
set_option maxRecDepth 20000 in
theorem ggX7_smallest_X7_barred : GoodIn wsX7_smallest wsX7_barred := goodIn_r _ [7, 1, 8, 9, 6, 10, 11, 12, 13, 54, 55, 56, 57, 58, 59, 60, 61, 62, 63, 64, 65, 66, 67, 68, 69, 70, 71, 72, 73, 74, 75, 76] (by decide +kernel) (by decide +kernel)
set_option maxRecDepth 20000 in
theorem gX7_smallest_X7_barred : GoodIn wsX7_smallest (wsV RX7 83 RX7 yX7_barred wsX7_barred) := goodIn_app (goodIn_of _ (by decide +kernel)) ggX7_smallest_X7_barred
set_option maxRecDepth 20000 in
theorem ggX7_smallest_X7_search : GoodIn wsX7_smallest wsX7_search := goodIn_r _ [17, 18, 19, 20, 21, 22, 23, 24, 6, 25, 26, 27, 28, 29, 30, 31, 32, 33, 34, 35, 36, 37, 38, 39, 40, 41, 42, 43, 44, 45, 46, 47, 48, 54, 55, 56, 57, 58, 59, 60, 61, 62, 63, 64, 65, 66, 67, 68, 69, 70, 71, 72, 73, 74, 75, 76] (by decide +kernel) (by decide +kernel)
set_option maxRecDepth 20000 in
theorem gX7_smallest_X7_search : GoodIn wsX7_smallest (wsV RX7 87 RX7 yX7_search wsX7_search) := goodIn_app (goodIn_of _ (by decide +kernel)) ggX7_smallest_X7_search
set_option maxRecDepth 20000 in
theorem ggX7_smallest_X7_hold : GoodIn wsX7_smallest wsX7_hold := goodIn_r _ [52, 19, 53, 2, 48, 54, 55, 56, 57, 58, 59, 60, 61, 62, 63, 64, 65, 66, 67, 68, 69, 70, 71, 72, 73, 74, 75, 76] (by decide +kernel) (by decide +kernel)
set_option maxRecDepth 20000 in
theorem gX7_smallest_X7_hold : GoodIn wsX7_smallest (wsV RX7 94 RX7 yX7_hold wsX7_hold) := goodIn_app (goodIn_of _ (by decide +kernel)) ggX7_smallest_X7_hold
theorem dX7_smallest_0 : decode cX7_smallest 0 = .ok (.aload_n 0, 1) := by decide +kernel
theorem dX7_smallest_1 : decode cX7_smallest 1 = .ok (.iload_n 1, 1) := by decide +kernel
theorem dX7_smallest_2 : decode cX7_smallest 2 = .ok (.iload_n 2, 1) := by decide +kernel
theorem dX7_smallest_3 : decode cX7_smallest 3 = .ok (.iload_n 3, 1) := by decide +kernel
theorem dX7_smallest_4 : decode cX7_smallest 4 = .ok (.iload 4, 2) := by decide +kernel
theorem dX7_smallest_6 : decode cX7_smallest 6 = .ok (.iload 5, 2) := by decide +kernel
theorem dX7_smallest_8 : decode cX7_smallest 8 = .ok (.invokevirtual 83, 3) := by decide +kernel
theorem dX7_smallest_11 : decode cX7_smallest 11 = .ok (.istore 6, 2) := by decide +kernel
theorem dX7_smallest_13 : decode cX7_smallest 13 = .ok (.iload 6, 2) := by decide +kernel
theorem dX7_smallest_15 : decode cX7_smallest 15 = .ok (.ifCond .eq 6, 3) := by decide +kernel
theorem dX7_smallest_18 : decode cX7_smallest 18 = .ok (.iload 6, 2) := by decide +kernel
theorem dX7_smallest_20 : decode cX7_smallest 20 = .ok (.ireturn, 1) := by decide +kernel
theorem dX7_smallest_21 : decode cX7_smallest 21 = .ok (.aload_n 0, 1) := by decide +kernel
theorem dX7_smallest_22 : decode cX7_smallest 22 = .ok (.dup, 1) := by decide +kernel
theorem dX7_smallest_23 : decode cX7_smallest 23 = .ok (.getfield 80, 3) := by decide +kernel
theorem dX7_smallest_26 : decode cX7_smallest 26 = .ok (.iconst 1, 1) := by decide +kernel
theorem dX7_smallest_27 : decode cX7_smallest 27 = .ok (.iadd, 1) := by decide +kernel
theorem dX7_smallest_28 : decode cX7_smallest 28 = .ok (.putfield 80, 3) := by decide +kernel
theorem dX7_smallest_31 : decode cX7_smallest 31 = .ok (.aload_n 0, 1) := by decide +kernel
theorem dX7_smallest_32 : decode cX7_smallest 32 = .ok (.iload_n 1, 1) := by decide +kernel
theorem dX7_smallest_33 : decode cX7_smallest 33 = .ok (.iload_n 2, 1) := by decide +kernel
theorem dX7_smallest_34 : decode cX7_smallest 34 = .ok (.iload_n 3, 1) := by decide +kernel
theorem dX7_smallest_35 : decode cX7_smallest 35 = .ok (.iload 4, 2) := by decide +kernel
theorem dX7_smallest_37 : decode cX7_smallest 37 = .ok (.iload 5, 2) := by decide +kernel
theorem dX7_smallest_39 : decode cX7_smallest 39 = .ok (.iconst 1, 1) := by decide +kernel
theorem dX7_smallest_40 : decode cX7_smallest 40 = .ok (.iconst (-1), 1) := by decide +kernel
theorem dX7_smallest_41 : decode cX7_smallest 41 = .ok (.invokevirtual 87, 3) := by decide +kernel
theorem dX7_smallest_44 : decode cX7_smallest 44 = .ok (.aload_n 0, 1) := by decide +kernel
theorem dX7_smallest_45 : decode cX7_smallest 45 = .ok (.iload_n 3, 1) := by decide +kernel
theorem dX7_smallest_46 : decode cX7_smallest 46 = .ok (.invokevirtual 94, 3) := by decide +kernel
theorem dX7_smallest_49 : decode cX7_smallest 49 = .ok (.iconst 1, 1) := by decide +kernel
theorem dX7_smallest_50 : decode cX7_smallest 50 = .ok (.if_icmp .ne 14, 3) := by decide +kernel
theorem dX7_smallest_53 : decode cX7_smallest 53 = .ok (.aload_n 0, 1) := by decide +kernel
theorem dX7_smallest_54 : decode cX7_smallest 54 = .ok (.getfield 13, 3) := by decide +kernel
theorem dX7_smallest_57 : decode cX7_smallest 57 = .ok (.iload_n 3, 1) := by decide +kernel
theorem dX7_smallest_58 : decode cX7_smallest 58 = .ok (.iconst 1, 1) := by decide +kernel
theorem dX7_smallest_59 : decode cX7_smallest 59 = .ok (.isub, 1) := by decide +kernel
theorem dX7_smallest_60 : decode cX7_smallest 60 = .ok (.iaload, 1) := by decide +kernel
theorem dX7_smallest_61 : decode cX7_smallest 61 = .ok (.goto 4, 3) := by decide +kernel
theorem dX7_smallest_64 : decode cX7_smallest 64 = .ok (.iconst (-1), 1) := by decide +kernel
theorem dX7_smallest_65 : decode cX7_smallest 65 = .ok (.ireturn, 1) := by decide +kernel
set_option maxRecDepth 20000 in
theorem ggX7_greedy_X7_isFraction : GoodIn wsX7_greedy wsX7_isFraction := goodIn_r _ [12, 13, 14, 11, 15] (by decide +kernel) (by decide +kernel)
set_option maxRecDepth 20000 in
theorem gX7_greedy_X7_isFraction : GoodIn wsX7_greedy (va_wsS RX7 77 yX7_isFraction wsX7_isFraction) := goodIn_app (goodIn_of _ (by decide +kernel)) ggX7_greedy_X7_isFraction
set_option maxRecDepth 20000 in
theorem ggX7_greedy_X7_common : GoodIn wsX7_greedy wsX7_common := goodIn_r _ [18] (by decide +kernel) (by decide +kernel)
set_option maxRecDepth 20000 in
theorem gX7_greedy_X7_common : GoodIn wsX7_greedy (va_wsS RX7 65 yX7_common wsX7_common) := goodIn_app (goodIn_of _ (by decide +kernel)) ggX7_greedy_X7_common
set_option maxRecDepth 20000 in
theorem ggX7_greedy_X7_come : GoodIn wsX7_greedy wsX7_come := goodIn_r _ [22, 6, 3, 1, 2, 23, 24, 25, 26, 27, 28, 29, 30, 31, 32, 33, 34, 35, 36, 37, 38, 39, 40, 41, 42, 43, 44, 45] (by decide +kernel) (by decide +kernel)
set_option maxRecDepth 20000 in
theorem gX7_greedy_X7_come : GoodIn wsX7_greedy (wsV RX7 108 RX7 yX7_come wsX7_come) := goodIn_app (goodIn_of _ (by decide +kernel)) ggX7_greedy_X7_come
theorem dX7_greedy_0 : decode cX7_greedy 0 = .ok (.iload_n 1, 1) := by decide +kernel
theorem dX7_greedy_1 : decode cX7_greedy 1 = .ok (.iload_n 2, 1) := by decide +kernel
theorem dX7_greedy_2 : decode cX7_greedy 2 = .ok (.invokestatic 77, 3) := by decide +kernel
theorem dX7_greedy_5 : decode cX7_greedy 5 = .ok (.ifCond .ne 6, 3) := by decide +kernel
theorem dX7_greedy_8 : decode cX7_greedy 8 = .ok (.bipush (-102), 2) := by decide +kernel
theorem dX7_greedy_10 : decode cX7_greedy 10 = .ok (.ireturn, 1) := by decide +kernel
theorem dX7_greedy_11 : decode cX7_greedy 11 = .ok (.aload_n 0, 1) := by decide +kernel
theorem dX7_greedy_12 : decode cX7_greedy 12 = .ok (.getfield 20, 3) := by decide +kernel
theorem dX7_greedy_15 : decode cX7_greedy 15 = .ok (.iconst 0, 1) := by decide +kernel
theorem dX7_greedy_16 : decode cX7_greedy 16 = .ok (.iload_n 1, 1) := by decide +kernel
theorem dX7_greedy_17 : decode cX7_greedy 17 = .ok (.i2l, 1) := by decide +kernel
theorem dX7_greedy_18 : decode cX7_greedy 18 = .ok (.iload_n 1, 1) := by decide +kernel
theorem dX7_greedy_19 : decode cX7_greedy 19 = .ok (.i2l, 1) := by decide +kernel
theorem dX7_greedy_20 : decode cX7_greedy 20 = .ok (.iload_n 2, 1) := by decide +kernel
theorem dX7_greedy_21 : decode cX7_greedy 21 = .ok (.i2l, 1) := by decide +kernel
theorem dX7_greedy_22 : decode cX7_greedy 22 = .ok (.invokestatic 65, 3) := by decide +kernel
theorem dX7_greedy_25 : decode cX7_greedy 25 = .ok (.ldiv, 1) := by decide +kernel
theorem dX7_greedy_26 : decode cX7_greedy 26 = .ok (.lastore, 1) := by decide +kernel
theorem dX7_greedy_27 : decode cX7_greedy 27 = .ok (.aload_n 0, 1) := by decide +kernel
theorem dX7_greedy_28 : decode cX7_greedy 28 = .ok (.getfield 24, 3) := by decide +kernel
theorem dX7_greedy_31 : decode cX7_greedy 31 = .ok (.iconst 0, 1) := by decide +kernel
theorem dX7_greedy_32 : decode cX7_greedy 32 = .ok (.iload_n 2, 1) := by decide +kernel
theorem dX7_greedy_33 : decode cX7_greedy 33 = .ok (.i2l, 1) := by decide +kernel
theorem dX7_greedy_34 : decode cX7_greedy 34 = .ok (.iload_n 1, 1) := by decide +kernel
theorem dX7_greedy_35 : decode cX7_greedy 35 = .ok (.i2l, 1) := by decide +kernel
theorem dX7_greedy_36 : decode cX7_greedy 36 = .ok (.iload_n 2, 1) := by decide +kernel
theorem dX7_greedy_37 : decode cX7_greedy 37 = .ok (.i2l, 1) := by decide +kernel
theorem dX7_greedy_38 : decode cX7_greedy 38 = .ok (.invokestatic 65, 3) := by decide +kernel
theorem dX7_greedy_41 : decode cX7_greedy 41 = .ok (.ldiv, 1) := by decide +kernel
theorem dX7_greedy_42 : decode cX7_greedy 42 = .ok (.lastore, 1) := by decide +kernel
theorem dX7_greedy_43 : decode cX7_greedy 43 = .ok (.aload_n 0, 1) := by decide +kernel
theorem dX7_greedy_44 : decode cX7_greedy 44 = .ok (.iconst 0, 1) := by decide +kernel
theorem dX7_greedy_45 : decode cX7_greedy 45 = .ok (.putfield 98, 3) := by decide +kernel
theorem dX7_greedy_48 : decode cX7_greedy 48 = .ok (.aload_n 0, 1) := by decide +kernel
theorem dX7_greedy_49 : decode cX7_greedy 49 = .ok (.iconst 0, 1) := by decide +kernel
theorem dX7_greedy_50 : decode cX7_greedy 50 = .ok (.putfield 101, 3) := by decide +kernel
theorem dX7_greedy_53 : decode cX7_greedy 53 = .ok (.iconst 1, 1) := by decide +kernel
theorem dX7_greedy_54 : decode cX7_greedy 54 = .ok (.istore_n 3, 1) := by decide +kernel
theorem dX7_greedy_55 : decode cX7_greedy 55 = .ok (.iload_n 3, 1) := by decide +kernel
theorem dX7_greedy_56 : decode cX7_greedy 56 = .ok (.ifCond .eq 215, 3) := by decide +kernel
theorem dX7_greedy_59 : decode cX7_greedy 59 = .ok (.aload_n 0, 1) := by decide +kernel
theorem dX7_greedy_60 : decode cX7_greedy 60 = .ok (.getfield 98, 3) := by decide +kernel
theorem dX7_greedy_63 : decode cX7_greedy 63 = .ok (.bipush 40, 2) := by decide +kernel
theorem dX7_greedy_65 : decode cX7_greedy 65 = .ok (.if_icmp .ge 206, 3) := by decide +kernel
theorem dX7_greedy_68 : decode cX7_greedy 68 = .ok (.aload_n 0, 1) := by decide +kernel
theorem dX7_greedy_69 : decode cX7_greedy 69 = .ok (.getfield 20, 3) := by decide +kernel
theorem dX7_greedy_72 : decode cX7_greedy 72 = .ok (.aload_n 0, 1) := by decide +kernel
theorem dX7_greedy_73 : decode cX7_greedy 73 = .ok (.getfield 98, 3) := by decide +kernel
theorem dX7_greedy_76 : decode cX7_greedy 76 = .ok (.laload, 1) := by decide +kernel
theorem dX7_greedy_77 : decode cX7_greedy 77 = .ok (.lstore 4, 2) := by decide +kernel
theorem dX7_greedy_79 : decode cX7_greedy 79 = .ok (.aload_n 0, 1) := by decide +kernel
theorem dX7_greedy_80 : decode cX7_greedy 80 = .ok (.getfield 24, 3) := by decide +kernel
theorem dX7_greedy_83 : decode cX7_greedy 83 = .ok (.aload_n 0, 1) := by decide +kernel
theorem dX7_greedy_84 : decode cX7_greedy 84 = .ok (.getfield 98, 3) := by decide +kernel
theorem dX7_greedy_87 : decode cX7_greedy 87 = .ok (.laload, 1) := by decide +kernel
theorem dX7_greedy_88 : decode cX7_greedy 88 = .ok (.lstore 6, 2) := by decide +kernel
theorem dX7_greedy_90 : decode cX7_greedy 90 = .ok (.lload 6, 2) := by decide +kernel
theorem dX7_greedy_92 : decode cX7_greedy 92 = .ok (.lload 4, 2) := by decide +kernel
theorem dX7_greedy_94 : decode cX7_greedy 94 = .ok (.ladd, 1) := by decide +kernel
theorem dX7_greedy_95 : decode cX7_greedy 95 = .ok (.lconst 1, 1) := by decide +kernel
theorem dX7_greedy_96 : decode cX7_greedy 96 = .ok (.lsub, 1) := by decide +kernel
theorem dX7_greedy_97 : decode cX7_greedy 97 = .ok (.lload 4, 2) := by decide +kernel
theorem dX7_greedy_99 : decode cX7_greedy 99 = .ok (.ldiv, 1) := by decide +kernel
theorem dX7_greedy_100 : decode cX7_greedy 100 = .ok (.lstore 8, 2) := by decide +kernel
theorem dX7_greedy_102 : decode cX7_greedy 102 = .ok (.aload_n 0, 1) := by decide +kernel
theorem dX7_greedy_103 : decode cX7_greedy 103 = .ok (.getfield 98, 3) := by decide +kernel
theorem dX7_greedy_106 : decode cX7_greedy 106 = .ok (.ifCond .ne 9, 3) := by decide +kernel
theorem dX7_greedy_109 : decode cX7_greedy 109 = .ok (.ldc2_w 104, 3) := by decide +kernel
theorem dX7_greedy_112 : decode cX7_greedy 112 = .ok (.goto 17, 3) := by decide +kernel
theorem dX7_greedy_115 : decode cX7_greedy 115 = .ok (.aload_n 0, 1) := by decide +kernel
theorem dX7_greedy_116 : decode cX7_greedy 116 = .ok (.getfield 17, 3) := by decide +kernel
theorem dX7_greedy_119 : decode cX7_greedy 119 = .ok (.aload_n 0, 1) := by decide +kernel
theorem dX7_greedy_120 : decode cX7_greedy 120 = .ok (.getfield 98, 3) := by decide +kernel
theorem dX7_greedy_123 : decode cX7_greedy 123 = .ok (.iconst 1, 1) := by decide +kernel
theorem dX7_greedy_124 : decode cX7_greedy 124 = .ok (.isub, 1) := by decide +kernel
theorem dX7_greedy_125 : decode cX7_greedy 125 = .ok (.iaload, 1) := by decide +kernel
theorem dX7_greedy_126 : decode cX7_greedy 126 = .ok (.i2l, 1) := by decide +kernel
theorem dX7_greedy_127 : decode cX7_greedy 127 = .ok (.lconst 1, 1) := by decide +kernel
theorem dX7_greedy_128 : decode cX7_greedy 128 = .ok (.ladd, 1) := by decide +kernel
theorem dX7_greedy_129 : decode cX7_greedy 129 = .ok (.lstore 10, 2) := by decide +kernel
theorem dX7_greedy_131 : decode cX7_greedy 131 = .ok (.lload 8, 2) := by decide +kernel
theorem dX7_greedy_133 : decode cX7_greedy 133 = .ok (.lload 10, 2) := by decide +kernel
theorem dX7_greedy_135 : decode cX7_greedy 135 = .ok (.lcmp, 1) := by decide +kernel
theorem dX7_greedy_136 : decode cX7_greedy 136 = .ok (.ifCond .ge 8, 3) := by decide +kernel
theorem dX7_greedy_139 : decode cX7_greedy 139 = .ok (.lload 10, 2) := by decide +kernel
theorem dX7_greedy_141 : decode cX7_greedy 141 = .ok (.goto 5, 3) := by decide +kernel
theorem dX7_greedy_144 : decode cX7_greedy 144 = .ok (.lload 8, 2) := by decide +kernel
theorem dX7_greedy_146 : decode cX7_greedy 146 = .ok (.lstore 8, 2) := by decide +kernel
theorem dX7_greedy_148 : decode cX7_greedy 148 = .ok (.lload 4, 2) := by decide +kernel
theorem dX7_greedy_150 : decode cX7_greedy 150 = .ok (.lload 8, 2) := by decide +kernel
theorem dX7_greedy_152 : decode cX7_greedy 152 = .ok (.lmul, 1) := by decide +kernel
theorem dX7_greedy_153 : decode cX7_greedy 153 = .ok (.lload 6, 2) := by decide +kernel
theorem dX7_greedy_155 : decode cX7_greedy 155 = .ok (.lsub, 1) := by decide +kernel
theorem dX7_greedy_156 : decode cX7_greedy 156 = .ok (.lstore 12, 2) := by decide +kernel
theorem dX7_greedy_158 : decode cX7_greedy 158 = .ok (.lload 8, 2) := by decide +kernel
theorem dX7_greedy_160 : decode cX7_greedy 160 = .ok (.ldc2_w 106, 3) := by decide +kernel
theorem dX7_greedy_163 : decode cX7_greedy 163 = .ok (.lcmp, 1) := by decide +kernel
theorem dX7_greedy_164 : decode cX7_greedy 164 = .ok (.ifCond .le 8, 3) := by decide +kernel
theorem dX7_greedy_167 : decode cX7_greedy 167 = .ok (.iconst 0, 1) := by decide +kernel
theorem dX7_greedy_168 : decode cX7_greedy 168 = .ok (.istore_n 3, 1) := by decide +kernel
theorem dX7_greedy_169 : decode cX7_greedy 169 = .ok (.goto 99, 3) := by decide +kernel
theorem dX7_greedy_172 : decode cX7_greedy 172 = .ok (.lload 12, 2) := by decide +kernel
theorem dX7_greedy_174 : decode cX7_greedy 174 = .ok (.lconst 0, 1) := by decide +kernel
theorem dX7_greedy_175 : decode cX7_greedy 175 = .ok (.lcmp, 1) := by decide +kernel
theorem dX7_greedy_176 : decode cX7_greedy 176 = .ok (.ifCond .ne 22, 3) := by decide +kernel
theorem dX7_greedy_179 : decode cX7_greedy 179 = .ok (.aload_n 0, 1) := by decide +kernel
theorem dX7_greedy_180 : decode cX7_greedy 180 = .ok (.lload 8, 2) := by decide +kernel
theorem dX7_greedy_182 : decode cX7_greedy 182 = .ok (.l2i, 1) := by decide +kernel
theorem dX7_greedy_183 : decode cX7_greedy 183 = .ok (.lconst 0, 1) := by decide +kernel
theorem dX7_greedy_184 : decode cX7_greedy 184 = .ok (.lconst 1, 1) := by decide +kernel
theorem dX7_greedy_185 : decode cX7_greedy 185 = .ok (.invokevirtual 108, 3) := by decide +kernel
theorem dX7_greedy_188 : decode cX7_greedy 188 = .ok (.aload_n 0, 1) := by decide +kernel
theorem dX7_greedy_189 : decode cX7_greedy 189 = .ok (.iconst 1, 1) := by decide +kernel
theorem dX7_greedy_190 : decode cX7_greedy 190 = .ok (.putfield 101, 3) := by decide +kernel
theorem dX7_greedy_193 : decode cX7_greedy 193 = .ok (.iconst 0, 1) := by decide +kernel
theorem dX7_greedy_194 : decode cX7_greedy 194 = .ok (.istore_n 3, 1) := by decide +kernel
theorem dX7_greedy_195 : decode cX7_greedy 195 = .ok (.goto 73, 3) := by decide +kernel
theorem dX7_greedy_198 : decode cX7_greedy 198 = .ok (.lload 12, 2) := by decide +kernel
theorem dX7_greedy_200 : decode cX7_greedy 200 = .ok (.lload 6, 2) := by decide +kernel
theorem dX7_greedy_202 : decode cX7_greedy 202 = .ok (.invokestatic 65, 3) := by decide +kernel
theorem dX7_greedy_205 : decode cX7_greedy 205 = .ok (.lstore 14, 2) := by decide +kernel
theorem dX7_greedy_207 : decode cX7_greedy 207 = .ok (.lload 12, 2) := by decide +kernel
theorem dX7_greedy_209 : decode cX7_greedy 209 = .ok (.lload 14, 2) := by decide +kernel
theorem dX7_greedy_211 : decode cX7_greedy 211 = .ok (.ldiv, 1) := by decide +kernel
theorem dX7_greedy_212 : decode cX7_greedy 212 = .ok (.lload 8, 2) := by decide +kernel
theorem dX7_greedy_214 : decode cX7_greedy 214 = .ok (.invokestatic 65, 3) := by decide +kernel
theorem dX7_greedy_217 : decode cX7_greedy 217 = .ok (.lstore 16, 2) := by decide +kernel
theorem dX7_greedy_219 : decode cX7_greedy 219 = .ok (.lload 6, 2) := by decide +kernel
theorem dX7_greedy_221 : decode cX7_greedy 221 = .ok (.lload 14, 2) := by decide +kernel
theorem dX7_greedy_223 : decode cX7_greedy 223 = .ok (.ldiv, 1) := by decide +kernel
theorem dX7_greedy_224 : decode cX7_greedy 224 = .ok (.ldc2_w 112, 3) := by decide +kernel
theorem dX7_greedy_227 : decode cX7_greedy 227 = .ok (.lload 8, 2) := by decide +kernel
theorem dX7_greedy_229 : decode cX7_greedy 229 = .ok (.lload 16, 2) := by decide +kernel
theorem dX7_greedy_231 : decode cX7_greedy 231 = .ok (.ldiv, 1) := by decide +kernel
theorem dX7_greedy_232 : decode cX7_greedy 232 = .ok (.ldiv, 1) := by decide +kernel
theorem dX7_greedy_233 : decode cX7_greedy 233 = .ok (.lcmp, 1) := by decide +kernel
theorem dX7_greedy_234 : decode cX7_greedy 234 = .ok (.ifCond .le 8, 3) := by decide +kernel
theorem dX7_greedy_237 : decode cX7_greedy 237 = .ok (.iconst 0, 1) := by decide +kernel
theorem dX7_greedy_238 : decode cX7_greedy 238 = .ok (.istore_n 3, 1) := by decide +kernel
theorem dX7_greedy_239 : decode cX7_greedy 239 = .ok (.goto 29, 3) := by decide +kernel
theorem dX7_greedy_242 : decode cX7_greedy 242 = .ok (.aload_n 0, 1) := by decide +kernel
theorem dX7_greedy_243 : decode cX7_greedy 243 = .ok (.lload 8, 2) := by decide +kernel
theorem dX7_greedy_245 : decode cX7_greedy 245 = .ok (.l2i, 1) := by decide +kernel
theorem dX7_greedy_246 : decode cX7_greedy 246 = .ok (.lload 12, 2) := by decide +kernel
theorem dX7_greedy_248 : decode cX7_greedy 248 = .ok (.lload 14, 2) := by decide +kernel
theorem dX7_greedy_250 : decode cX7_greedy 250 = .ok (.ldiv, 1) := by decide +kernel
theorem dX7_greedy_251 : decode cX7_greedy 251 = .ok (.lload 16, 2) := by decide +kernel
theorem dX7_greedy_253 : decode cX7_greedy 253 = .ok (.ldiv, 1) := by decide +kernel
theorem dX7_greedy_254 : decode cX7_greedy 254 = .ok (.lload 6, 2) := by decide +kernel
theorem dX7_greedy_256 : decode cX7_greedy 256 = .ok (.lload 14, 2) := by decide +kernel
theorem dX7_greedy_258 : decode cX7_greedy 258 = .ok (.ldiv, 1) := by decide +kernel
theorem dX7_greedy_259 : decode cX7_greedy 259 = .ok (.lload 8, 2) := by decide +kernel
theorem dX7_greedy_261 : decode cX7_greedy 261 = .ok (.lload 16, 2) := by decide +kernel
theorem dX7_greedy_263 : decode cX7_greedy 263 = .ok (.ldiv, 1) := by decide +kernel
theorem dX7_greedy_264 : decode cX7_greedy 264 = .ok (.lmul, 1) := by decide +kernel
theorem dX7_greedy_265 : decode cX7_greedy 265 = .ok (.invokevirtual 108, 3) := by decide +kernel
theorem dX7_greedy_268 : decode cX7_greedy 268 = .ok (.goto (-213), 3) := by decide +kernel
theorem dX7_greedy_271 : decode cX7_greedy 271 = .ok (.aload_n 0, 1) := by decide +kernel
theorem dX7_greedy_272 : decode cX7_greedy 272 = .ok (.getfield 98, 3) := by decide +kernel
theorem dX7_greedy_275 : decode cX7_greedy 275 = .ok (.ireturn, 1) := by decide +kernel
theorem dX7_come_0 : decode cX7_come 0 = .ok (.aload_n 0, 1) := by decide +kernel
theorem dX7_come_1 : decode cX7_come 1 = .ok (.getfield 17, 3) := by decide +kernel
theorem dX7_come_4 : decode cX7_come 4 = .ok (.aload_n 0, 1) := by decide +kernel
theorem dX7_come_5 : decode cX7_come 5 = .ok (.getfield 98, 3) := by decide +kernel
theorem dX7_come_8 : decode cX7_come 8 = .ok (.iload_n 1, 1) := by decide +kernel
theorem dX7_come_9 : decode cX7_come 9 = .ok (.iastore, 1) := by decide +kernel
theorem dX7_come_10 : decode cX7_come 10 = .ok (.aload_n 0, 1) := by decide +kernel
theorem dX7_come_11 : decode cX7_come 11 = .ok (.dup, 1) := by decide +kernel
theorem dX7_come_12 : decode cX7_come 12 = .ok (.getfield 98, 3) := by decide +kernel
theorem dX7_come_15 : decode cX7_come 15 = .ok (.iconst 1, 1) := by decide +kernel
theorem dX7_come_16 : decode cX7_come 16 = .ok (.iadd, 1) := by decide +kernel
theorem dX7_come_17 : decode cX7_come 17 = .ok (.putfield 98, 3) := by decide +kernel
theorem dX7_come_20 : decode cX7_come 20 = .ok (.aload_n 0, 1) := by decide +kernel
theorem dX7_come_21 : decode cX7_come 21 = .ok (.getfield 20, 3) := by decide +kernel
theorem dX7_come_24 : decode cX7_come 24 = .ok (.aload_n 0, 1) := by decide +kernel
theorem dX7_come_25 : decode cX7_come 25 = .ok (.getfield 98, 3) := by decide +kernel
theorem dX7_come_28 : decode cX7_come 28 = .ok (.lload_n 2, 1) := by decide +kernel
theorem dX7_come_29 : decode cX7_come 29 = .ok (.lastore, 1) := by decide +kernel
theorem dX7_come_30 : decode cX7_come 30 = .ok (.aload_n 0, 1) := by decide +kernel
theorem dX7_come_31 : decode cX7_come 31 = .ok (.getfield 24, 3) := by decide +kernel
theorem dX7_come_34 : decode cX7_come 34 = .ok (.aload_n 0, 1) := by decide +kernel
theorem dX7_come_35 : decode cX7_come 35 = .ok (.getfield 98, 3) := by decide +kernel
theorem dX7_come_38 : decode cX7_come 38 = .ok (.lload 4, 2) := by decide +kernel
theorem dX7_come_40 : decode cX7_come 40 = .ok (.lastore, 1) := by decide +kernel
theorem dX7_come_41 : decode cX7_come 41 = .ok (.return_, 1) := by decide +kernel
set_option maxRecDepth 20000 in
theorem ggX7_step_X7_in : GoodIn wsX7_step wsX7_in := goodIn_r _ [6] (by decide +kernel) (by decide +kernel)
set_option maxRecDepth 20000 in
theorem gX7_step_X7_in : GoodIn wsX7_step (va_wsS RX7 39 yX7_in wsX7_in) := goodIn_app (goodIn_of _ (by decide +kernel)) ggX7_step_X7_in
theorem dX7_step_0 : decode cX7_step 0 = .ok (.iload_n 1, 1) := by decide +kernel
theorem dX7_step_1 : decode cX7_step 1 = .ok (.iconst 0, 1) := by decide +kernel
theorem dX7_step_2 : decode cX7_step 2 = .ok (.aload_n 0, 1) := by decide +kernel
theorem dX7_step_3 : decode cX7_step 3 = .ok (.getfield 98, 3) := by decide +kernel
theorem dX7_step_6 : decode cX7_step 6 = .ok (.iconst 1, 1) := by decide +kernel
theorem dX7_step_7 : decode cX7_step 7 = .ok (.isub, 1) := by decide +kernel
theorem dX7_step_8 : decode cX7_step 8 = .ok (.invokestatic 39, 3) := by decide +kernel
theorem dX7_step_11 : decode cX7_step 11 = .ok (.ifCond .eq 12, 3) := by decide +kernel
theorem dX7_step_14 : decode cX7_step 14 = .ok (.aload_n 0, 1) := by decide +kernel
theorem dX7_step_15 : decode cX7_step 15 = .ok (.getfield 17, 3) := by decide +kernel
theorem dX7_step_18 : decode cX7_step 18 = .ok (.iload_n 1, 1) := by decide +kernel
theorem dX7_step_19 : decode cX7_step 19 = .ok (.iaload, 1) := by decide +kernel
theorem dX7_step_20 : decode cX7_step 20 = .ok (.goto 4, 3) := by decide +kernel
theorem dX7_step_23 : decode cX7_step 23 = .ok (.iconst (-1), 1) := by decide +kernel
theorem dX7_step_24 : decode cX7_step 24 = .ok (.ireturn, 1) := by decide +kernel
set_option maxRecDepth 20000 in
theorem ggX7_left_X7_in : GoodIn wsX7_left wsX7_in := goodIn_r _ [9] (by decide +kernel) (by decide +kernel)
set_option maxRecDepth 20000 in
theorem gX7_left_X7_in : GoodIn wsX7_left (va_wsS RX7 39 yX7_in wsX7_in) := goodIn_app (goodIn_of _ (by decide +kernel)) ggX7_left_X7_in
theorem dX7_left_0 : decode cX7_left 0 = .ok (.iload_n 1, 1) := by decide +kernel
theorem dX7_left_1 : decode cX7_left 1 = .ok (.iconst 0, 1) := by decide +kernel
theorem dX7_left_2 : decode cX7_left 2 = .ok (.aload_n 0, 1) := by decide +kernel
theorem dX7_left_3 : decode cX7_left 3 = .ok (.getfield 98, 3) := by decide +kernel
theorem dX7_left_6 : decode cX7_left 6 = .ok (.invokestatic 39, 3) := by decide +kernel
theorem dX7_left_9 : decode cX7_left 9 = .ok (.ifCond .ne 7, 3) := by decide +kernel
theorem dX7_left_12 : decode cX7_left 12 = .ok (.ldc2_w 114, 3) := by decide +kernel
theorem dX7_left_15 : decode cX7_left 15 = .ok (.lreturn, 1) := by decide +kernel
theorem dX7_left_16 : decode cX7_left 16 = .ok (.iload_n 2, 1) := by decide +kernel
theorem dX7_left_17 : decode cX7_left 17 = .ok (.ifCond .ne 12, 3) := by decide +kernel
theorem dX7_left_20 : decode cX7_left 20 = .ok (.aload_n 0, 1) := by decide +kernel
theorem dX7_left_21 : decode cX7_left 21 = .ok (.getfield 20, 3) := by decide +kernel
theorem dX7_left_24 : decode cX7_left 24 = .ok (.iload_n 1, 1) := by decide +kernel
theorem dX7_left_25 : decode cX7_left 25 = .ok (.laload, 1) := by decide +kernel
theorem dX7_left_26 : decode cX7_left 26 = .ok (.goto 20, 3) := by decide +kernel
theorem dX7_left_29 : decode cX7_left 29 = .ok (.iload_n 2, 1) := by decide +kernel
theorem dX7_left_30 : decode cX7_left 30 = .ok (.iconst 1, 1) := by decide +kernel
theorem dX7_left_31 : decode cX7_left 31 = .ok (.if_icmp .ne 12, 3) := by decide +kernel
theorem dX7_left_34 : decode cX7_left 34 = .ok (.aload_n 0, 1) := by decide +kernel
theorem dX7_left_35 : decode cX7_left 35 = .ok (.getfield 24, 3) := by decide +kernel
theorem dX7_left_38 : decode cX7_left 38 = .ok (.iload_n 1, 1) := by decide +kernel
theorem dX7_left_39 : decode cX7_left 39 = .ok (.laload, 1) := by decide +kernel
theorem dX7_left_40 : decode cX7_left 40 = .ok (.goto 6, 3) := by decide +kernel
theorem dX7_left_43 : decode cX7_left 43 = .ok (.ldc2_w 116, 3) := by decide +kernel
theorem dX7_left_46 : decode cX7_left 46 = .ok (.lreturn, 1) := by decide +kernel
theorem dX7_done_0 : decode cX7_done 0 = .ok (.aload_n 0, 1) := by decide +kernel
theorem dX7_done_1 : decode cX7_done 1 = .ok (.getfield 101, 3) := by decide +kernel
theorem dX7_done_4 : decode cX7_done 4 = .ok (.ifCond .eq 7, 3) := by decide +kernel
theorem dX7_done_7 : decode cX7_done 7 = .ok (.iconst 1, 1) := by decide +kernel
theorem dX7_done_8 : decode cX7_done 8 = .ok (.goto 4, 3) := by decide +kernel
theorem dX7_done_11 : decode cX7_done 11 = .ok (.iconst 0, 1) := by decide +kernel
theorem dX7_done_12 : decode cX7_done 12 = .ok (.ireturn, 1) := by decide +kernel
theorem dX7_placeOf_0 : decode cX7_placeOf 0 = .ok (.iconst 0, 1) := by decide +kernel
theorem dX7_placeOf_1 : decode cX7_placeOf 1 = .ok (.istore_n 2, 1) := by decide +kernel
theorem dX7_placeOf_2 : decode cX7_placeOf 2 = .ok (.iload_n 2, 1) := by decide +kernel
theorem dX7_placeOf_3 : decode cX7_placeOf 3 = .ok (.aload_n 0, 1) := by decide +kernel
theorem dX7_placeOf_4 : decode cX7_placeOf 4 = .ok (.getfield 91, 3) := by decide +kernel
theorem dX7_placeOf_7 : decode cX7_placeOf 7 = .ok (.if_icmp .ge 21, 3) := by decide +kernel
theorem dX7_placeOf_10 : decode cX7_placeOf 10 = .ok (.aload_n 0, 1) := by decide +kernel
theorem dX7_placeOf_11 : decode cX7_placeOf 11 = .ok (.getfield 13, 3) := by decide +kernel
theorem dX7_placeOf_14 : decode cX7_placeOf 14 = .ok (.iload_n 2, 1) := by decide +kernel
theorem dX7_placeOf_15 : decode cX7_placeOf 15 = .ok (.iaload, 1) := by decide +kernel
theorem dX7_placeOf_16 : decode cX7_placeOf 16 = .ok (.iload_n 1, 1) := by decide +kernel
theorem dX7_placeOf_17 : decode cX7_placeOf 17 = .ok (.if_icmp .ne 5, 3) := by decide +kernel
theorem dX7_placeOf_20 : decode cX7_placeOf 20 = .ok (.iload_n 2, 1) := by decide +kernel
theorem dX7_placeOf_21 : decode cX7_placeOf 21 = .ok (.ireturn, 1) := by decide +kernel
theorem dX7_placeOf_22 : decode cX7_placeOf 22 = .ok (.iinc 2 1, 3) := by decide +kernel
theorem dX7_placeOf_25 : decode cX7_placeOf 25 = .ok (.goto (-23), 3) := by decide +kernel
theorem dX7_placeOf_28 : decode cX7_placeOf 28 = .ok (.iconst (-1), 1) := by decide +kernel
theorem dX7_placeOf_29 : decode cX7_placeOf 29 = .ok (.ireturn, 1) := by decide +kernel
theorem dX7_insert_0 : decode cX7_insert 0 = .ok (.aload_n 0, 1) := by decide +kernel
theorem dX7_insert_1 : decode cX7_insert 1 = .ok (.getfield 91, 3) := by decide +kernel
theorem dX7_insert_4 : decode cX7_insert 4 = .ok (.istore_n 2, 1) := by decide +kernel
theorem dX7_insert_5 : decode cX7_insert 5 = .ok (.iload_n 2, 1) := by decide +kernel
theorem dX7_insert_6 : decode cX7_insert 6 = .ok (.ifCond .le 35, 3) := by decide +kernel
theorem dX7_insert_9 : decode cX7_insert 9 = .ok (.aload_n 0, 1) := by decide +kernel
theorem dX7_insert_10 : decode cX7_insert 10 = .ok (.getfield 13, 3) := by decide +kernel
theorem dX7_insert_13 : decode cX7_insert 13 = .ok (.iload_n 2, 1) := by decide +kernel
theorem dX7_insert_14 : decode cX7_insert 14 = .ok (.iconst 1, 1) := by decide +kernel
theorem dX7_insert_15 : decode cX7_insert 15 = .ok (.isub, 1) := by decide +kernel
theorem dX7_insert_16 : decode cX7_insert 16 = .ok (.iaload, 1) := by decide +kernel
theorem dX7_insert_17 : decode cX7_insert 17 = .ok (.iload_n 1, 1) := by decide +kernel
theorem dX7_insert_18 : decode cX7_insert 18 = .ok (.if_icmp .le 23, 3) := by decide +kernel
theorem dX7_insert_21 : decode cX7_insert 21 = .ok (.aload_n 0, 1) := by decide +kernel
theorem dX7_insert_22 : decode cX7_insert 22 = .ok (.getfield 13, 3) := by decide +kernel
theorem dX7_insert_25 : decode cX7_insert 25 = .ok (.iload_n 2, 1) := by decide +kernel
theorem dX7_insert_26 : decode cX7_insert 26 = .ok (.aload_n 0, 1) := by decide +kernel
theorem dX7_insert_27 : decode cX7_insert 27 = .ok (.getfield 13, 3) := by decide +kernel
theorem dX7_insert_30 : decode cX7_insert 30 = .ok (.iload_n 2, 1) := by decide +kernel
theorem dX7_insert_31 : decode cX7_insert 31 = .ok (.iconst 1, 1) := by decide +kernel
theorem dX7_insert_32 : decode cX7_insert 32 = .ok (.isub, 1) := by decide +kernel
theorem dX7_insert_33 : decode cX7_insert 33 = .ok (.iaload, 1) := by decide +kernel
theorem dX7_insert_34 : decode cX7_insert 34 = .ok (.iastore, 1) := by decide +kernel
theorem dX7_insert_35 : decode cX7_insert 35 = .ok (.iinc 2 (-1), 3) := by decide +kernel
theorem dX7_insert_38 : decode cX7_insert 38 = .ok (.goto (-33), 3) := by decide +kernel
theorem dX7_insert_41 : decode cX7_insert 41 = .ok (.aload_n 0, 1) := by decide +kernel
theorem dX7_insert_42 : decode cX7_insert 42 = .ok (.getfield 13, 3) := by decide +kernel
theorem dX7_insert_45 : decode cX7_insert 45 = .ok (.iload_n 2, 1) := by decide +kernel
theorem dX7_insert_46 : decode cX7_insert 46 = .ok (.iload_n 1, 1) := by decide +kernel
theorem dX7_insert_47 : decode cX7_insert 47 = .ok (.iastore, 1) := by decide +kernel
theorem dX7_insert_48 : decode cX7_insert 48 = .ok (.aload_n 0, 1) := by decide +kernel
theorem dX7_insert_49 : decode cX7_insert 49 = .ok (.dup, 1) := by decide +kernel
theorem dX7_insert_50 : decode cX7_insert 50 = .ok (.getfield 91, 3) := by decide +kernel
theorem dX7_insert_53 : decode cX7_insert 53 = .ok (.iconst 1, 1) := by decide +kernel
theorem dX7_insert_54 : decode cX7_insert 54 = .ok (.iadd, 1) := by decide +kernel
theorem dX7_insert_55 : decode cX7_insert 55 = .ok (.putfield 91, 3) := by decide +kernel
theorem dX7_insert_58 : decode cX7_insert 58 = .ok (.return_, 1) := by decide +kernel
theorem dX7_remove_0 : decode cX7_remove 0 = .ok (.iload_n 1, 1) := by decide +kernel
theorem dX7_remove_1 : decode cX7_remove 1 = .ok (.istore_n 2, 1) := by decide +kernel
theorem dX7_remove_2 : decode cX7_remove 2 = .ok (.iload_n 2, 1) := by decide +kernel
theorem dX7_remove_3 : decode cX7_remove 3 = .ok (.aload_n 0, 1) := by decide +kernel
theorem dX7_remove_4 : decode cX7_remove 4 = .ok (.getfield 91, 3) := by decide +kernel
theorem dX7_remove_7 : decode cX7_remove 7 = .ok (.iconst 1, 1) := by decide +kernel
theorem dX7_remove_8 : decode cX7_remove 8 = .ok (.isub, 1) := by decide +kernel
theorem dX7_remove_9 : decode cX7_remove 9 = .ok (.if_icmp .ge 23, 3) := by decide +kernel
theorem dX7_remove_12 : decode cX7_remove 12 = .ok (.aload_n 0, 1) := by decide +kernel
theorem dX7_remove_13 : decode cX7_remove 13 = .ok (.getfield 13, 3) := by decide +kernel
theorem dX7_remove_16 : decode cX7_remove 16 = .ok (.iload_n 2, 1) := by decide +kernel
theorem dX7_remove_17 : decode cX7_remove 17 = .ok (.aload_n 0, 1) := by decide +kernel
theorem dX7_remove_18 : decode cX7_remove 18 = .ok (.getfield 13, 3) := by decide +kernel
theorem dX7_remove_21 : decode cX7_remove 21 = .ok (.iload_n 2, 1) := by decide +kernel
theorem dX7_remove_22 : decode cX7_remove 22 = .ok (.iconst 1, 1) := by decide +kernel
theorem dX7_remove_23 : decode cX7_remove 23 = .ok (.iadd, 1) := by decide +kernel
theorem dX7_remove_24 : decode cX7_remove 24 = .ok (.iaload, 1) := by decide +kernel
theorem dX7_remove_25 : decode cX7_remove 25 = .ok (.iastore, 1) := by decide +kernel
theorem dX7_remove_26 : decode cX7_remove 26 = .ok (.iinc 2 1, 3) := by decide +kernel
theorem dX7_remove_29 : decode cX7_remove 29 = .ok (.goto (-27), 3) := by decide +kernel
theorem dX7_remove_32 : decode cX7_remove 32 = .ok (.aload_n 0, 1) := by decide +kernel
theorem dX7_remove_33 : decode cX7_remove 33 = .ok (.dup, 1) := by decide +kernel
theorem dX7_remove_34 : decode cX7_remove 34 = .ok (.getfield 91, 3) := by decide +kernel
theorem dX7_remove_37 : decode cX7_remove 37 = .ok (.iconst 1, 1) := by decide +kernel
theorem dX7_remove_38 : decode cX7_remove 38 = .ok (.isub, 1) := by decide +kernel
theorem dX7_remove_39 : decode cX7_remove 39 = .ok (.putfield 91, 3) := by decide +kernel
theorem dX7_remove_42 : decode cX7_remove 42 = .ok (.return_, 1) := by decide +kernel
set_option maxRecDepth 20000 in
theorem ggX7_put_X7_in : GoodIn wsX7_put wsX7_in := goodIn_r _ [5] (by decide +kernel) (by decide +kernel)
set_option maxRecDepth 20000 in
theorem gX7_put_X7_in : GoodIn wsX7_put (va_wsS RX7 39 yX7_in wsX7_in) := goodIn_app (goodIn_of _ (by decide +kernel)) ggX7_put_X7_in
set_option maxRecDepth 20000 in
theorem ggX7_put_X7_placeOf : GoodIn wsX7_put wsX7_placeOf := goodIn_r _ [9, 1, 10, 15, 16, 17, 18, 19, 20, 21, 22, 23, 24, 25, 26, 27, 28, 29, 30, 31, 32, 33, 34, 35, 36, 37] (by decide +kernel) (by decide +kernel)
set_option maxRecDepth 20000 in
theorem gX7_put_X7_placeOf : GoodIn wsX7_put (wsV RX7 118 RX7 yX7_placeOf wsX7_placeOf) := goodIn_app (goodIn_of _ (by decide +kernel)) ggX7_put_X7_placeOf
set_option maxRecDepth 20000 in
theorem ggX7_put_X7_insert : GoodIn wsX7_put wsX7_insert := goodIn_r _ [14, 1, 10, 15, 16, 17, 18, 19, 20, 21, 22, 23, 24, 25, 26, 27, 28, 29, 30, 31, 32, 33, 34, 35, 36, 37] (by decide +kernel) (by decide +kernel)
set_option maxRecDepth 20000 in
theorem gX7_put_X7_insert : GoodIn wsX7_put (wsV RX7 121 RX7 yX7_insert wsX7_insert) := goodIn_app (goodIn_of _ (by decide +kernel)) ggX7_put_X7_insert
theorem dX7_put_0 : decode cX7_put 0 = .ok (.iload_n 1, 1) := by decide +kernel
theorem dX7_put_1 : decode cX7_put 1 = .ok (.iconst 2, 1) := by decide +kernel
theorem dX7_put_2 : decode cX7_put 2 = .ok (.sipush 1000, 3) := by decide +kernel
theorem dX7_put_5 : decode cX7_put 5 = .ok (.invokestatic 39, 3) := by decide +kernel
theorem dX7_put_8 : decode cX7_put 8 = .ok (.ifCond .ne 6, 3) := by decide +kernel
theorem dX7_put_11 : decode cX7_put 11 = .ok (.bipush (-102), 2) := by decide +kernel
theorem dX7_put_13 : decode cX7_put 13 = .ok (.ireturn, 1) := by decide +kernel
theorem dX7_put_14 : decode cX7_put 14 = .ok (.aload_n 0, 1) := by decide +kernel
theorem dX7_put_15 : decode cX7_put 15 = .ok (.iload_n 1, 1) := by decide +kernel
theorem dX7_put_16 : decode cX7_put 16 = .ok (.invokevirtual 118, 3) := by decide +kernel
theorem dX7_put_19 : decode cX7_put 19 = .ok (.iconst (-1), 1) := by decide +kernel
theorem dX7_put_20 : decode cX7_put 20 = .ok (.if_icmp .eq 6, 3) := by decide +kernel
theorem dX7_put_23 : decode cX7_put 23 = .ok (.bipush (-103), 2) := by decide +kernel
theorem dX7_put_25 : decode cX7_put 25 = .ok (.ireturn, 1) := by decide +kernel
theorem dX7_put_26 : decode cX7_put 26 = .ok (.aload_n 0, 1) := by decide +kernel
theorem dX7_put_27 : decode cX7_put 27 = .ok (.getfield 91, 3) := by decide +kernel
theorem dX7_put_30 : decode cX7_put 30 = .ok (.iconst 5, 1) := by decide +kernel
theorem dX7_put_31 : decode cX7_put 31 = .ok (.if_icmp .ne 6, 3) := by decide +kernel
theorem dX7_put_34 : decode cX7_put 34 = .ok (.bipush (-104), 2) := by decide +kernel
theorem dX7_put_36 : decode cX7_put 36 = .ok (.ireturn, 1) := by decide +kernel
theorem dX7_put_37 : decode cX7_put 37 = .ok (.aload_n 0, 1) := by decide +kernel
theorem dX7_put_38 : decode cX7_put 38 = .ok (.iload_n 1, 1) := by decide +kernel
theorem dX7_put_39 : decode cX7_put 39 = .ok (.invokevirtual 121, 3) := by decide +kernel
theorem dX7_put_42 : decode cX7_put 42 = .ok (.aload_n 0, 1) := by decide +kernel
theorem dX7_put_43 : decode cX7_put 43 = .ok (.getfield 91, 3) := by decide +kernel
theorem dX7_put_46 : decode cX7_put 46 = .ok (.ireturn, 1) := by decide +kernel
set_option maxRecDepth 20000 in
theorem ggX7_drop_X7_placeOf : GoodIn wsX7_drop wsX7_placeOf := goodIn_r _ [6, 1, 7, 12, 13, 14, 15, 16, 17, 18, 19, 20, 21, 22, 23, 24, 25, 26, 27, 28, 29, 30, 31, 32, 33, 34] (by decide +kernel) (by decide +kernel)
set_option maxRecDepth 20000 in
theorem gX7_drop_X7_placeOf : GoodIn wsX7_drop (wsV RX7 118 RX7 yX7_placeOf wsX7_placeOf) := goodIn_app (goodIn_of _ (by decide +kernel)) ggX7_drop_X7_placeOf
set_option maxRecDepth 20000 in
theorem ggX7_drop_X7_remove : GoodIn wsX7_drop wsX7_remove := goodIn_r _ [11, 1, 7, 12, 13, 14, 15, 16, 17, 18, 19, 20, 21, 22, 23, 24, 25, 26, 27, 28, 29, 30, 31, 32, 33, 34] (by decide +kernel) (by decide +kernel)
set_option maxRecDepth 20000 in
theorem gX7_drop_X7_remove : GoodIn wsX7_drop (wsV RX7 125 RX7 yX7_remove wsX7_remove) := goodIn_app (goodIn_of _ (by decide +kernel)) ggX7_drop_X7_remove
theorem dX7_drop_0 : decode cX7_drop 0 = .ok (.aload_n 0, 1) := by decide +kernel
theorem dX7_drop_1 : decode cX7_drop 1 = .ok (.iload_n 1, 1) := by decide +kernel
theorem dX7_drop_2 : decode cX7_drop 2 = .ok (.invokevirtual 118, 3) := by decide +kernel
theorem dX7_drop_5 : decode cX7_drop 5 = .ok (.istore_n 2, 1) := by decide +kernel
theorem dX7_drop_6 : decode cX7_drop 6 = .ok (.iload_n 2, 1) := by decide +kernel
theorem dX7_drop_7 : decode cX7_drop 7 = .ok (.iconst (-1), 1) := by decide +kernel
theorem dX7_drop_8 : decode cX7_drop 8 = .ok (.if_icmp .ne 6, 3) := by decide +kernel
theorem dX7_drop_11 : decode cX7_drop 11 = .ok (.bipush (-101), 2) := by decide +kernel
theorem dX7_drop_13 : decode cX7_drop 13 = .ok (.ireturn, 1) := by decide +kernel
theorem dX7_drop_14 : decode cX7_drop 14 = .ok (.aload_n 0, 1) := by decide +kernel
theorem dX7_drop_15 : decode cX7_drop 15 = .ok (.iload_n 2, 1) := by decide +kernel
theorem dX7_drop_16 : decode cX7_drop 16 = .ok (.invokevirtual 125, 3) := by decide +kernel
theorem dX7_drop_19 : decode cX7_drop 19 = .ok (.aload_n 0, 1) := by decide +kernel
theorem dX7_drop_20 : decode cX7_drop 20 = .ok (.getfield 91, 3) := by decide +kernel
theorem dX7_drop_23 : decode cX7_drop 23 = .ok (.ireturn, 1) := by decide +kernel
theorem dX7_clear_0 : decode cX7_clear 0 = .ok (.aload_n 0, 1) := by decide +kernel
theorem dX7_clear_1 : decode cX7_clear 1 = .ok (.getfield 91, 3) := by decide +kernel
theorem dX7_clear_4 : decode cX7_clear 4 = .ok (.istore_n 1, 1) := by decide +kernel
theorem dX7_clear_5 : decode cX7_clear 5 = .ok (.aload_n 0, 1) := by decide +kernel
theorem dX7_clear_6 : decode cX7_clear 6 = .ok (.iconst 0, 1) := by decide +kernel
theorem dX7_clear_7 : decode cX7_clear 7 = .ok (.putfield 91, 3) := by decide +kernel
theorem dX7_clear_10 : decode cX7_clear 10 = .ok (.iload_n 1, 1) := by decide +kernel
theorem dX7_clear_11 : decode cX7_clear 11 = .ok (.ireturn, 1) := by decide +kernel
set_option maxRecDepth 20000 in
theorem ggX7_held_X7_in : GoodIn wsX7_held wsX7_in := goodIn_r _ [6] (by decide +kernel) (by decide +kernel)
set_option maxRecDepth 20000 in
theorem gX7_held_X7_in : GoodIn wsX7_held (va_wsS RX7 39 yX7_in wsX7_in) := goodIn_app (goodIn_of _ (by decide +kernel)) ggX7_held_X7_in
theorem dX7_held_0 : decode cX7_held 0 = .ok (.iload_n 1, 1) := by decide +kernel
theorem dX7_held_1 : decode cX7_held 1 = .ok (.iconst 0, 1) := by decide +kernel
theorem dX7_held_2 : decode cX7_held 2 = .ok (.aload_n 0, 1) := by decide +kernel
theorem dX7_held_3 : decode cX7_held 3 = .ok (.getfield 91, 3) := by decide +kernel
theorem dX7_held_6 : decode cX7_held 6 = .ok (.iconst 1, 1) := by decide +kernel
theorem dX7_held_7 : decode cX7_held 7 = .ok (.isub, 1) := by decide +kernel
theorem dX7_held_8 : decode cX7_held 8 = .ok (.invokestatic 39, 3) := by decide +kernel
theorem dX7_held_11 : decode cX7_held 11 = .ok (.ifCond .eq 12, 3) := by decide +kernel
theorem dX7_held_14 : decode cX7_held 14 = .ok (.aload_n 0, 1) := by decide +kernel
theorem dX7_held_15 : decode cX7_held 15 = .ok (.getfield 13, 3) := by decide +kernel
theorem dX7_held_18 : decode cX7_held 18 = .ok (.iload_n 1, 1) := by decide +kernel
theorem dX7_held_19 : decode cX7_held 19 = .ok (.iaload, 1) := by decide +kernel
theorem dX7_held_20 : decode cX7_held 20 = .ok (.goto 4, 3) := by decide +kernel
theorem dX7_held_23 : decode cX7_held 23 = .ok (.iconst (-1), 1) := by decide +kernel
theorem dX7_held_24 : decode cX7_held 24 = .ok (.ireturn, 1) := by decide +kernel
set_option maxRecDepth 20000 in
theorem ggX7_add_X7_common : GoodIn wsX7_add wsX7_common := goodIn_r _ [8] (by decide +kernel) (by decide +kernel)
set_option maxRecDepth 20000 in
theorem gX7_add_X7_common : GoodIn wsX7_add (va_wsS RX7 65 yX7_common wsX7_common) := goodIn_app (goodIn_of _ (by decide +kernel)) ggX7_add_X7_common
theorem dX7_add_0 : decode cX7_add 0 = .ok (.aload_n 0, 1) := by decide +kernel
theorem dX7_add_1 : decode cX7_add 1 = .ok (.lconst 0, 1) := by decide +kernel
theorem dX7_add_2 : decode cX7_add 2 = .ok (.putfield 128, 3) := by decide +kernel
theorem dX7_add_5 : decode cX7_add 5 = .ok (.aload_n 0, 1) := by decide +kernel
theorem dX7_add_6 : decode cX7_add 6 = .ok (.lconst 1, 1) := by decide +kernel
theorem dX7_add_7 : decode cX7_add 7 = .ok (.putfield 132, 3) := by decide +kernel
theorem dX7_add_10 : decode cX7_add 10 = .ok (.iconst 0, 1) := by decide +kernel
theorem dX7_add_11 : decode cX7_add 11 = .ok (.istore_n 1, 1) := by decide +kernel
theorem dX7_add_12 : decode cX7_add 12 = .ok (.iload_n 1, 1) := by decide +kernel
theorem dX7_add_13 : decode cX7_add 13 = .ok (.aload_n 0, 1) := by decide +kernel
theorem dX7_add_14 : decode cX7_add 14 = .ok (.getfield 91, 3) := by decide +kernel
theorem dX7_add_17 : decode cX7_add 17 = .ok (.if_icmp .ge 66, 3) := by decide +kernel
theorem dX7_add_20 : decode cX7_add 20 = .ok (.aload_n 0, 1) := by decide +kernel
theorem dX7_add_21 : decode cX7_add 21 = .ok (.getfield 128, 3) := by decide +kernel
theorem dX7_add_24 : decode cX7_add 24 = .ok (.aload_n 0, 1) := by decide +kernel
theorem dX7_add_25 : decode cX7_add 25 = .ok (.getfield 13, 3) := by decide +kernel
theorem dX7_add_28 : decode cX7_add 28 = .ok (.iload_n 1, 1) := by decide +kernel
theorem dX7_add_29 : decode cX7_add 29 = .ok (.iaload, 1) := by decide +kernel
theorem dX7_add_30 : decode cX7_add 30 = .ok (.i2l, 1) := by decide +kernel
theorem dX7_add_31 : decode cX7_add 31 = .ok (.lmul, 1) := by decide +kernel
theorem dX7_add_32 : decode cX7_add 32 = .ok (.aload_n 0, 1) := by decide +kernel
theorem dX7_add_33 : decode cX7_add 33 = .ok (.getfield 132, 3) := by decide +kernel
theorem dX7_add_36 : decode cX7_add 36 = .ok (.ladd, 1) := by decide +kernel
theorem dX7_add_37 : decode cX7_add 37 = .ok (.lstore_n 2, 1) := by decide +kernel
theorem dX7_add_38 : decode cX7_add 38 = .ok (.aload_n 0, 1) := by decide +kernel
theorem dX7_add_39 : decode cX7_add 39 = .ok (.getfield 132, 3) := by decide +kernel
theorem dX7_add_42 : decode cX7_add 42 = .ok (.aload_n 0, 1) := by decide +kernel
theorem dX7_add_43 : decode cX7_add 43 = .ok (.getfield 13, 3) := by decide +kernel
theorem dX7_add_46 : decode cX7_add 46 = .ok (.iload_n 1, 1) := by decide +kernel
theorem dX7_add_47 : decode cX7_add 47 = .ok (.iaload, 1) := by decide +kernel
theorem dX7_add_48 : decode cX7_add 48 = .ok (.i2l, 1) := by decide +kernel
theorem dX7_add_49 : decode cX7_add 49 = .ok (.lmul, 1) := by decide +kernel
theorem dX7_add_50 : decode cX7_add 50 = .ok (.lstore 4, 2) := by decide +kernel
theorem dX7_add_52 : decode cX7_add 52 = .ok (.lload_n 2, 1) := by decide +kernel
theorem dX7_add_53 : decode cX7_add 53 = .ok (.lload 4, 2) := by decide +kernel
theorem dX7_add_55 : decode cX7_add 55 = .ok (.invokestatic 65, 3) := by decide +kernel
theorem dX7_add_58 : decode cX7_add 58 = .ok (.lstore 6, 2) := by decide +kernel
theorem dX7_add_60 : decode cX7_add 60 = .ok (.aload_n 0, 1) := by decide +kernel
theorem dX7_add_61 : decode cX7_add 61 = .ok (.lload_n 2, 1) := by decide +kernel
theorem dX7_add_62 : decode cX7_add 62 = .ok (.lload 6, 2) := by decide +kernel
theorem dX7_add_64 : decode cX7_add 64 = .ok (.ldiv, 1) := by decide +kernel
theorem dX7_add_65 : decode cX7_add 65 = .ok (.putfield 128, 3) := by decide +kernel
theorem dX7_add_68 : decode cX7_add 68 = .ok (.aload_n 0, 1) := by decide +kernel
theorem dX7_add_69 : decode cX7_add 69 = .ok (.lload 4, 2) := by decide +kernel
theorem dX7_add_71 : decode cX7_add 71 = .ok (.lload 6, 2) := by decide +kernel
theorem dX7_add_73 : decode cX7_add 73 = .ok (.ldiv, 1) := by decide +kernel
theorem dX7_add_74 : decode cX7_add 74 = .ok (.putfield 132, 3) := by decide +kernel
theorem dX7_add_77 : decode cX7_add 77 = .ok (.iinc 1 1, 3) := by decide +kernel
theorem dX7_add_80 : decode cX7_add 80 = .ok (.goto (-68), 3) := by decide +kernel
theorem dX7_add_83 : decode cX7_add 83 = .ok (.return_, 1) := by decide +kernel
set_option maxRecDepth 20000 in
theorem ggX7_sum_X7_add : GoodIn wsX7_sum wsX7_add := goodIn_r _ [8, 1, 2, 9, 10, 11, 12, 7, 13, 14, 15, 16, 17, 18, 19, 20, 21, 22, 23, 24, 25, 26, 27, 28, 29, 30, 31, 32, 33, 34, 35, 36] (by decide +kernel) (by decide +kernel)
set_option maxRecDepth 20000 in
theorem gX7_sum_X7_add : GoodIn wsX7_sum (wsV RX7 135 RX7 yX7_add wsX7_add) := goodIn_app (goodIn_of _ (by decide +kernel)) ggX7_sum_X7_add
theorem dX7_sum_0 : decode cX7_sum 0 = .ok (.aload_n 0, 1) := by decide +kernel
theorem dX7_sum_1 : decode cX7_sum 1 = .ok (.invokevirtual 135, 3) := by decide +kernel
theorem dX7_sum_4 : decode cX7_sum 4 = .ok (.iload_n 1, 1) := by decide +kernel
theorem dX7_sum_5 : decode cX7_sum 5 = .ok (.ifCond .ne 10, 3) := by decide +kernel
theorem dX7_sum_8 : decode cX7_sum 8 = .ok (.aload_n 0, 1) := by decide +kernel
theorem dX7_sum_9 : decode cX7_sum 9 = .ok (.getfield 128, 3) := by decide +kernel
theorem dX7_sum_12 : decode cX7_sum 12 = .ok (.goto 18, 3) := by decide +kernel
theorem dX7_sum_15 : decode cX7_sum 15 = .ok (.iload_n 1, 1) := by decide +kernel
theorem dX7_sum_16 : decode cX7_sum 16 = .ok (.iconst 1, 1) := by decide +kernel
theorem dX7_sum_17 : decode cX7_sum 17 = .ok (.if_icmp .ne 10, 3) := by decide +kernel
theorem dX7_sum_20 : decode cX7_sum 20 = .ok (.aload_n 0, 1) := by decide +kernel
theorem dX7_sum_21 : decode cX7_sum 21 = .ok (.getfield 132, 3) := by decide +kernel
theorem dX7_sum_24 : decode cX7_sum 24 = .ok (.goto 6, 3) := by decide +kernel
theorem dX7_sum_27 : decode cX7_sum 27 = .ok (.ldc2_w 116, 3) := by decide +kernel
theorem dX7_sum_30 : decode cX7_sum 30 = .ok (.lreturn, 1) := by decide +kernel
set_option maxRecDepth 20000 in
theorem ggX7_split_X7_placeOf : GoodIn wsX7_split wsX7_placeOf := goodIn_r _ [6, 1, 7, 16, 17, 18, 19, 20, 21, 22, 23, 24, 25, 26, 27, 28, 29, 30, 31, 32, 33, 34, 35, 36, 37, 38] (by decide +kernel) (by decide +kernel)
set_option maxRecDepth 20000 in
theorem gX7_split_X7_placeOf : GoodIn wsX7_split (wsV RX7 118 RX7 yX7_placeOf wsX7_placeOf) := goodIn_app (goodIn_of _ (by decide +kernel)) ggX7_split_X7_placeOf
