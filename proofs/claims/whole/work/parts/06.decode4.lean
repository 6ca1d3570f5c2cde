theorem dX6_rounds_51 : decode cX6_rounds 51 = .ok (.invokevirtual 90, 3) := by decide +kernel
theorem dX6_rounds_54 : decode cX6_rounds 54 = .ok (.iconst 0, 1) := by decide +kernel
theorem dX6_rounds_55 : decode cX6_rounds 55 = .ok (.istore_n 1, 1) := by decide +kernel
theorem dX6_rounds_56 : decode cX6_rounds 56 = .ok (.iconst 2, 1) := by decide +kernel
theorem dX6_rounds_57 : decode cX6_rounds 57 = .ok (.istore_n 2, 1) := by decide +kernel
theorem dX6_rounds_58 : decode cX6_rounds 58 = .ok (.iload_n 2, 1) := by decide +kernel
theorem dX6_rounds_59 : decode cX6_rounds 59 = .ok (.iconst 2, 1) := by decide +kernel
theorem dX6_rounds_60 : decode cX6_rounds 60 = .ok (.if_icmp .ne 167, 3) := by decide +kernel
theorem dX6_rounds_63 : decode cX6_rounds 63 = .ok (.aload_n 0, 1) := by decide +kernel
theorem dX6_rounds_64 : decode cX6_rounds 64 = .ok (.getfield 29, 3) := by decide +kernel
theorem dX6_rounds_67 : decode cX6_rounds 67 = .ok (.iload_n 1, 1) := by decide +kernel
theorem dX6_rounds_68 : decode cX6_rounds 68 = .ok (.aload_n 0, 1) := by decide +kernel
theorem dX6_rounds_69 : decode cX6_rounds 69 = .ok (.getfield 80, 3) := by decide +kernel
theorem dX6_rounds_72 : decode cX6_rounds 72 = .ok (.iastore, 1) := by decide +kernel
theorem dX6_rounds_73 : decode cX6_rounds 73 = .ok (.iconst 0, 1) := by decide +kernel
theorem dX6_rounds_74 : decode cX6_rounds 74 = .ok (.istore_n 3, 1) := by decide +kernel
theorem dX6_rounds_75 : decode cX6_rounds 75 = .ok (.iload_n 3, 1) := by decide +kernel
theorem dX6_rounds_76 : decode cX6_rounds 76 = .ok (.sipush 1000, 3) := by decide +kernel
theorem dX6_rounds_79 : decode cX6_rounds 79 = .ok (.if_icmp .ge 41, 3) := by decide +kernel
theorem dX6_rounds_82 : decode cX6_rounds 82 = .ok (.aload_n 0, 1) := by decide +kernel
theorem dX6_rounds_83 : decode cX6_rounds 83 = .ok (.getfield 33, 3) := by decide +kernel
theorem dX6_rounds_86 : decode cX6_rounds 86 = .ok (.sipush 1000, 3) := by decide +kernel
theorem dX6_rounds_89 : decode cX6_rounds 89 = .ok (.iload_n 1, 1) := by decide +kernel
theorem dX6_rounds_90 : decode cX6_rounds 90 = .ok (.imul, 1) := by decide +kernel
theorem dX6_rounds_91 : decode cX6_rounds 91 = .ok (.iload_n 3, 1) := by decide +kernel
theorem dX6_rounds_92 : decode cX6_rounds 92 = .ok (.iadd, 1) := by decide +kernel
theorem dX6_rounds_93 : decode cX6_rounds 93 = .ok (.iload_n 3, 1) := by decide +kernel
theorem dX6_rounds_94 : decode cX6_rounds 94 = .ok (.iconst 5, 1) := by decide +kernel
theorem dX6_rounds_95 : decode cX6_rounds 95 = .ok (.aload_n 0, 1) := by decide +kernel
theorem dX6_rounds_96 : decode cX6_rounds 96 = .ok (.getfield 80, 3) := by decide +kernel
theorem dX6_rounds_99 : decode cX6_rounds 99 = .ok (.imul, 1) := by decide +kernel
theorem dX6_rounds_100 : decode cX6_rounds 100 = .ok (.if_icmp .ge 12, 3) := by decide +kernel
theorem dX6_rounds_103 : decode cX6_rounds 103 = .ok (.aload_n 0, 1) := by decide +kernel
theorem dX6_rounds_104 : decode cX6_rounds 104 = .ok (.getfield 36, 3) := by decide +kernel
theorem dX6_rounds_107 : decode cX6_rounds 107 = .ok (.iload_n 3, 1) := by decide +kernel
theorem dX6_rounds_108 : decode cX6_rounds 108 = .ok (.iaload, 1) := by decide +kernel
theorem dX6_rounds_109 : decode cX6_rounds 109 = .ok (.goto 4, 3) := by decide +kernel
theorem dX6_rounds_112 : decode cX6_rounds 112 = .ok (.iconst 0, 1) := by decide +kernel
theorem dX6_rounds_113 : decode cX6_rounds 113 = .ok (.iastore, 1) := by decide +kernel
theorem dX6_rounds_114 : decode cX6_rounds 114 = .ok (.iinc 3 1, 3) := by decide +kernel
theorem dX6_rounds_117 : decode cX6_rounds 117 = .ok (.goto (-42), 3) := by decide +kernel
theorem dX6_rounds_120 : decode cX6_rounds 120 = .ok (.aload_n 0, 1) := by decide +kernel
theorem dX6_rounds_121 : decode cX6_rounds 121 = .ok (.iload_n 1, 1) := by decide +kernel
theorem dX6_rounds_122 : decode cX6_rounds 122 = .ok (.putfield 96, 3) := by decide +kernel
theorem dX6_rounds_125 : decode cX6_rounds 125 = .ok (.aload_n 0, 1) := by decide +kernel
theorem dX6_rounds_126 : decode cX6_rounds 126 = .ok (.invokevirtual 99, 3) := by decide +kernel
theorem dX6_rounds_129 : decode cX6_rounds 129 = .ok (.ifCond .eq 8, 3) := by decide +kernel
theorem dX6_rounds_132 : decode cX6_rounds 132 = .ok (.iconst 1, 1) := by decide +kernel
theorem dX6_rounds_133 : decode cX6_rounds 133 = .ok (.istore_n 2, 1) := by decide +kernel
theorem dX6_rounds_134 : decode cX6_rounds 134 = .ok (.goto (-76), 3) := by decide +kernel
theorem dX6_rounds_137 : decode cX6_rounds 137 = .ok (.aload_n 0, 1) := by decide +kernel
theorem dX6_rounds_138 : decode cX6_rounds 138 = .ok (.getfield 80, 3) := by decide +kernel
theorem dX6_rounds_141 : decode cX6_rounds 141 = .ok (.sipush 200, 3) := by decide +kernel
theorem dX6_rounds_144 : decode cX6_rounds 144 = .ok (.if_icmp .le 8, 3) := by decide +kernel
theorem dX6_rounds_147 : decode cX6_rounds 147 = .ok (.iconst (-1), 1) := by decide +kernel
theorem dX6_rounds_148 : decode cX6_rounds 148 = .ok (.istore_n 2, 1) := by decide +kernel
theorem dX6_rounds_149 : decode cX6_rounds 149 = .ok (.goto (-91), 3) := by decide +kernel
theorem dX6_rounds_152 : decode cX6_rounds 152 = .ok (.iload_n 1, 1) := by decide +kernel
theorem dX6_rounds_153 : decode cX6_rounds 153 = .ok (.ifCond .le 15, 3) := by decide +kernel
theorem dX6_rounds_156 : decode cX6_rounds 156 = .ok (.aload_n 0, 1) := by decide +kernel
theorem dX6_rounds_157 : decode cX6_rounds 157 = .ok (.invokevirtual 103, 3) := by decide +kernel
theorem dX6_rounds_160 : decode cX6_rounds 160 = .ok (.ifCond .eq 8, 3) := by decide +kernel
theorem dX6_rounds_163 : decode cX6_rounds 163 = .ok (.iconst 0, 1) := by decide +kernel
theorem dX6_rounds_164 : decode cX6_rounds 164 = .ok (.istore_n 2, 1) := by decide +kernel
theorem dX6_rounds_165 : decode cX6_rounds 165 = .ok (.goto (-107), 3) := by decide +kernel
theorem dX6_rounds_168 : decode cX6_rounds 168 = .ok (.iload_n 1, 1) := by decide +kernel
theorem dX6_rounds_169 : decode cX6_rounds 169 = .ok (.bipush 60, 2) := by decide +kernel
theorem dX6_rounds_171 : decode cX6_rounds 171 = .ok (.if_icmp .ne 8, 3) := by decide +kernel
theorem dX6_rounds_174 : decode cX6_rounds 174 = .ok (.iconst (-1), 1) := by decide +kernel
theorem dX6_rounds_175 : decode cX6_rounds 175 = .ok (.istore_n 2, 1) := by decide +kernel
theorem dX6_rounds_176 : decode cX6_rounds 176 = .ok (.goto (-118), 3) := by decide +kernel
theorem dX6_rounds_179 : decode cX6_rounds 179 = .ok (.iconst 0, 1) := by decide +kernel
theorem dX6_rounds_180 : decode cX6_rounds 180 = .ok (.istore_n 3, 1) := by decide +kernel
theorem dX6_rounds_181 : decode cX6_rounds 181 = .ok (.iload_n 3, 1) := by decide +kernel
theorem dX6_rounds_182 : decode cX6_rounds 182 = .ok (.iconst 5, 1) := by decide +kernel
theorem dX6_rounds_183 : decode cX6_rounds 183 = .ok (.aload_n 0, 1) := by decide +kernel
theorem dX6_rounds_184 : decode cX6_rounds 184 = .ok (.getfield 80, 3) := by decide +kernel
theorem dX6_rounds_187 : decode cX6_rounds 187 = .ok (.imul, 1) := by decide +kernel
theorem dX6_rounds_188 : decode cX6_rounds 188 = .ok (.if_icmp .ge 21, 3) := by decide +kernel
theorem dX6_rounds_191 : decode cX6_rounds 191 = .ok (.aload_n 0, 1) := by decide +kernel
theorem dX6_rounds_192 : decode cX6_rounds 192 = .ok (.getfield 39, 3) := by decide +kernel
theorem dX6_rounds_195 : decode cX6_rounds 195 = .ok (.iload_n 3, 1) := by decide +kernel
theorem dX6_rounds_196 : decode cX6_rounds 196 = .ok (.aload_n 0, 1) := by decide +kernel
theorem dX6_rounds_197 : decode cX6_rounds 197 = .ok (.getfield 36, 3) := by decide +kernel
theorem dX6_rounds_200 : decode cX6_rounds 200 = .ok (.iload_n 3, 1) := by decide +kernel
theorem dX6_rounds_201 : decode cX6_rounds 201 = .ok (.iaload, 1) := by decide +kernel
theorem dX6_rounds_202 : decode cX6_rounds 202 = .ok (.iastore, 1) := by decide +kernel
theorem dX6_rounds_203 : decode cX6_rounds 203 = .ok (.iinc 3 1, 3) := by decide +kernel
theorem dX6_rounds_206 : decode cX6_rounds 206 = .ok (.goto (-25), 3) := by decide +kernel
theorem dX6_rounds_209 : decode cX6_rounds 209 = .ok (.aload_n 0, 1) := by decide +kernel
theorem dX6_rounds_210 : decode cX6_rounds 210 = .ok (.aload_n 0, 1) := by decide +kernel
theorem dX6_rounds_211 : decode cX6_rounds 211 = .ok (.getfield 80, 3) := by decide +kernel
theorem dX6_rounds_214 : decode cX6_rounds 214 = .ok (.putfield 87, 3) := by decide +kernel
theorem dX6_rounds_217 : decode cX6_rounds 217 = .ok (.aload_n 0, 1) := by decide +kernel
theorem dX6_rounds_218 : decode cX6_rounds 218 = .ok (.invokevirtual 106, 3) := by decide +kernel
theorem dX6_rounds_221 : decode cX6_rounds 221 = .ok (.iinc 1 1, 3) := by decide +kernel
theorem dX6_rounds_224 : decode cX6_rounds 224 = .ok (.goto (-166), 3) := by decide +kernel
theorem dX6_rounds_227 : decode cX6_rounds 227 = .ok (.aload_n 0, 1) := by decide +kernel
theorem dX6_rounds_228 : decode cX6_rounds 228 = .ok (.iload_n 2, 1) := by decide +kernel
theorem dX6_rounds_229 : decode cX6_rounds 229 = .ok (.putfield 25, 3) := by decide +kernel
theorem dX6_rounds_232 : decode cX6_rounds 232 = .ok (.aload_n 0, 1) := by decide +kernel
theorem dX6_rounds_233 : decode cX6_rounds 233 = .ok (.getfield 25, 3) := by decide +kernel
theorem dX6_rounds_236 : decode cX6_rounds 236 = .ok (.iconst 1, 1) := by decide +kernel
theorem dX6_rounds_237 : decode cX6_rounds 237 = .ok (.if_icmp .ne 7, 3) := by decide +kernel
theorem dX6_rounds_240 : decode cX6_rounds 240 = .ok (.aload_n 0, 1) := by decide +kernel
theorem dX6_rounds_241 : decode cX6_rounds 241 = .ok (.invokevirtual 109, 3) := by decide +kernel
theorem dX6_rounds_244 : decode cX6_rounds 244 = .ok (.aload_n 0, 1) := by decide +kernel
theorem dX6_rounds_245 : decode cX6_rounds 245 = .ok (.getfield 25, 3) := by decide +kernel
theorem dX6_rounds_248 : decode cX6_rounds 248 = .ok (.ireturn, 1) := by decide +kernel
set_option maxRecDepth 20000 in
theorem ggX6_tellRow_X6_leads : GoodIn wsX6_tellRow wsX6_leads := goodIn_r _ [11, 12, 5, 6, 13, 14, 15, 10, 16, 17, 18, 19, 20, 21, 22, 23, 24, 25, 26, 27, 28, 29, 30, 31, 32, 33, 34, 35, 36, 37, 38, 39, 40, 41, 42, 43, 44, 45, 46, 47, 48, 49, 50, 51, 52, 53, 54, 55, 56, 57] (by decide +kernel) (by decide +kernel)
set_option maxRecDepth 20000 in
theorem gX6_tellRow_X6_leads : GoodIn wsX6_tellRow (wsV RX6 112 RX6 yX6_leads wsX6_leads) := goodIn_app (goodIn_of _ (by decide +kernel)) ggX6_tellRow_X6_leads
theorem dX6_tellRow_0 : decode cX6_tellRow 0 = .ok (.aload_n 0, 1) := by decide +kernel
theorem dX6_tellRow_1 : decode cX6_tellRow 1 = .ok (.getfield 57, 3) := by decide +kernel
theorem dX6_tellRow_4 : decode cX6_tellRow 4 = .ok (.astore_n 1, 1) := by decide +kernel
theorem dX6_tellRow_5 : decode cX6_tellRow 5 = .ok (.iconst 0, 1) := by decide +kernel
theorem dX6_tellRow_6 : decode cX6_tellRow 6 = .ok (.istore_n 2, 1) := by decide +kernel
theorem dX6_tellRow_7 : decode cX6_tellRow 7 = .ok (.iload_n 2, 1) := by decide +kernel
theorem dX6_tellRow_8 : decode cX6_tellRow 8 = .ok (.iconst 5, 1) := by decide +kernel
theorem dX6_tellRow_9 : decode cX6_tellRow 9 = .ok (.if_icmp .ge 18, 3) := by decide +kernel
theorem dX6_tellRow_12 : decode cX6_tellRow 12 = .ok (.aload_n 1, 1) := by decide +kernel
theorem dX6_tellRow_13 : decode cX6_tellRow 13 = .ok (.iload_n 2, 1) := by decide +kernel
theorem dX6_tellRow_14 : decode cX6_tellRow 14 = .ok (.aload_n 0, 1) := by decide +kernel
theorem dX6_tellRow_15 : decode cX6_tellRow 15 = .ok (.getfield 7, 3) := by decide +kernel
theorem dX6_tellRow_18 : decode cX6_tellRow 18 = .ok (.iload_n 2, 1) := by decide +kernel
theorem dX6_tellRow_19 : decode cX6_tellRow 19 = .ok (.iaload, 1) := by decide +kernel
theorem dX6_tellRow_20 : decode cX6_tellRow 20 = .ok (.iastore, 1) := by decide +kernel
theorem dX6_tellRow_21 : decode cX6_tellRow 21 = .ok (.iinc 2 1, 3) := by decide +kernel
theorem dX6_tellRow_24 : decode cX6_tellRow 24 = .ok (.goto (-17), 3) := by decide +kernel
theorem dX6_tellRow_27 : decode cX6_tellRow 27 = .ok (.iconst 0, 1) := by decide +kernel
theorem dX6_tellRow_28 : decode cX6_tellRow 28 = .ok (.istore_n 2, 1) := by decide +kernel
theorem dX6_tellRow_29 : decode cX6_tellRow 29 = .ok (.iload_n 2, 1) := by decide +kernel
theorem dX6_tellRow_30 : decode cX6_tellRow 30 = .ok (.aload_n 0, 1) := by decide +kernel
theorem dX6_tellRow_31 : decode cX6_tellRow 31 = .ok (.getfield 96, 3) := by decide +kernel
theorem dX6_tellRow_34 : decode cX6_tellRow 34 = .ok (.if_icmp .ge 86, 3) := by decide +kernel
theorem dX6_tellRow_37 : decode cX6_tellRow 37 = .ok (.iconst 0, 1) := by decide +kernel
theorem dX6_tellRow_38 : decode cX6_tellRow 38 = .ok (.istore_n 3, 1) := by decide +kernel
theorem dX6_tellRow_39 : decode cX6_tellRow 39 = .ok (.aload_n 0, 1) := by decide +kernel
theorem dX6_tellRow_40 : decode cX6_tellRow 40 = .ok (.aload_n 1, 1) := by decide +kernel
theorem dX6_tellRow_41 : decode cX6_tellRow 41 = .ok (.iload_n 3, 1) := by decide +kernel
theorem dX6_tellRow_42 : decode cX6_tellRow 42 = .ok (.aload_n 0, 1) := by decide +kernel
theorem dX6_tellRow_43 : decode cX6_tellRow 43 = .ok (.getfield 96, 3) := by decide +kernel
theorem dX6_tellRow_46 : decode cX6_tellRow 46 = .ok (.iload_n 2, 1) := by decide +kernel
theorem dX6_tellRow_47 : decode cX6_tellRow 47 = .ok (.isub, 1) := by decide +kernel
theorem dX6_tellRow_48 : decode cX6_tellRow 48 = .ok (.iconst 1, 1) := by decide +kernel
theorem dX6_tellRow_49 : decode cX6_tellRow 49 = .ok (.isub, 1) := by decide +kernel
theorem dX6_tellRow_50 : decode cX6_tellRow 50 = .ok (.invokevirtual 112, 3) := by decide +kernel
theorem dX6_tellRow_53 : decode cX6_tellRow 53 = .ok (.ifCond .ne 9, 3) := by decide +kernel
theorem dX6_tellRow_56 : decode cX6_tellRow 56 = .ok (.iinc 3 1, 3) := by decide +kernel
theorem dX6_tellRow_59 : decode cX6_tellRow 59 = .ok (.goto (-20), 3) := by decide +kernel
theorem dX6_tellRow_62 : decode cX6_tellRow 62 = .ok (.aload_n 0, 1) := by decide +kernel
theorem dX6_tellRow_63 : decode cX6_tellRow 63 = .ok (.getfield 42, 3) := by decide +kernel
theorem dX6_tellRow_66 : decode cX6_tellRow 66 = .ok (.iload_n 2, 1) := by decide +kernel
theorem dX6_tellRow_67 : decode cX6_tellRow 67 = .ok (.iload_n 3, 1) := by decide +kernel
theorem dX6_tellRow_68 : decode cX6_tellRow 68 = .ok (.iastore, 1) := by decide +kernel
theorem dX6_tellRow_69 : decode cX6_tellRow 69 = .ok (.iconst 0, 1) := by decide +kernel
theorem dX6_tellRow_70 : decode cX6_tellRow 70 = .ok (.istore 4, 2) := by decide +kernel
theorem dX6_tellRow_72 : decode cX6_tellRow 72 = .ok (.iload 4, 2) := by decide +kernel
theorem dX6_tellRow_74 : decode cX6_tellRow 74 = .ok (.iconst 5, 1) := by decide +kernel
theorem dX6_tellRow_75 : decode cX6_tellRow 75 = .ok (.if_icmp .ge 39, 3) := by decide +kernel
theorem dX6_tellRow_78 : decode cX6_tellRow 78 = .ok (.aload_n 1, 1) := by decide +kernel
theorem dX6_tellRow_79 : decode cX6_tellRow 79 = .ok (.iload 4, 2) := by decide +kernel
theorem dX6_tellRow_81 : decode cX6_tellRow 81 = .ok (.dup2, 1) := by decide +kernel
theorem dX6_tellRow_82 : decode cX6_tellRow 82 = .ok (.iaload, 1) := by decide +kernel
theorem dX6_tellRow_83 : decode cX6_tellRow 83 = .ok (.aload_n 0, 1) := by decide +kernel
theorem dX6_tellRow_84 : decode cX6_tellRow 84 = .ok (.getfield 19, 3) := by decide +kernel
theorem dX6_tellRow_87 : decode cX6_tellRow 87 = .ok (.iconst 5, 1) := by decide +kernel
theorem dX6_tellRow_88 : decode cX6_tellRow 88 = .ok (.iload_n 3, 1) := by decide +kernel
theorem dX6_tellRow_89 : decode cX6_tellRow 89 = .ok (.imul, 1) := by decide +kernel
theorem dX6_tellRow_90 : decode cX6_tellRow 90 = .ok (.iload 4, 2) := by decide +kernel
theorem dX6_tellRow_92 : decode cX6_tellRow 92 = .ok (.iadd, 1) := by decide +kernel
theorem dX6_tellRow_93 : decode cX6_tellRow 93 = .ok (.iaload, 1) := by decide +kernel
theorem dX6_tellRow_94 : decode cX6_tellRow 94 = .ok (.aload_n 0, 1) := by decide +kernel
theorem dX6_tellRow_95 : decode cX6_tellRow 95 = .ok (.getfield 16, 3) := by decide +kernel
theorem dX6_tellRow_98 : decode cX6_tellRow 98 = .ok (.iconst 5, 1) := by decide +kernel
theorem dX6_tellRow_99 : decode cX6_tellRow 99 = .ok (.iload_n 3, 1) := by decide +kernel
theorem dX6_tellRow_100 : decode cX6_tellRow 100 = .ok (.imul, 1) := by decide +kernel
theorem dX6_tellRow_101 : decode cX6_tellRow 101 = .ok (.iload 4, 2) := by decide +kernel
theorem dX6_tellRow_103 : decode cX6_tellRow 103 = .ok (.iadd, 1) := by decide +kernel
theorem dX6_tellRow_104 : decode cX6_tellRow 104 = .ok (.iaload, 1) := by decide +kernel
theorem dX6_tellRow_105 : decode cX6_tellRow 105 = .ok (.isub, 1) := by decide +kernel
theorem dX6_tellRow_106 : decode cX6_tellRow 106 = .ok (.iadd, 1) := by decide +kernel
theorem dX6_tellRow_107 : decode cX6_tellRow 107 = .ok (.iastore, 1) := by decide +kernel
theorem dX6_tellRow_108 : decode cX6_tellRow 108 = .ok (.iinc 4 1, 3) := by decide +kernel
theorem dX6_tellRow_111 : decode cX6_tellRow 111 = .ok (.goto (-39), 3) := by decide +kernel
theorem dX6_tellRow_114 : decode cX6_tellRow 114 = .ok (.iinc 2 1, 3) := by decide +kernel
theorem dX6_tellRow_117 : decode cX6_tellRow 117 = .ok (.goto (-88), 3) := by decide +kernel
theorem dX6_tellRow_120 : decode cX6_tellRow 120 = .ok (.return_, 1) := by decide +kernel
set_option maxRecDepth 20000 in
theorem ggX6_canFire_X6_isTransition : GoodIn wsX6_canFire wsX6_isTransition := goodIn_r _ [6, 7, 11, 12, 13, 14, 15, 16, 17, 18, 19, 20, 21, 22, 23, 24, 25, 26, 27, 28, 29, 30, 31, 32, 33, 34, 35, 36, 37] (by decide +kernel) (by decide +kernel)
set_option maxRecDepth 20000 in
theorem gX6_canFire_X6_isTransition : GoodIn wsX6_canFire (wsV RX6 73 RX6 yX6_isTransition wsX6_isTransition) := goodIn_app (goodIn_of _ (by decide +kernel)) ggX6_canFire_X6_isTransition
set_option maxRecDepth 20000 in
theorem ggX6_canFire_X6_tops : GoodIn wsX6_canFire wsX6_tops := goodIn_r _ [10] (by decide +kernel) (by decide +kernel)
set_option maxRecDepth 20000 in
theorem gX6_canFire_X6_tops : GoodIn wsX6_canFire (va_wsS RX6 83 yX6_tops wsX6_tops) := goodIn_app (goodIn_of _ (by decide +kernel)) ggX6_canFire_X6_tops
theorem dX6_canFire_0 : decode cX6_canFire 0 = .ok (.aload_n 0, 1) := by decide +kernel
theorem dX6_canFire_1 : decode cX6_canFire 1 = .ok (.iload_n 3, 1) := by decide +kernel
theorem dX6_canFire_2 : decode cX6_canFire 2 = .ok (.invokevirtual 73, 3) := by decide +kernel
theorem dX6_canFire_5 : decode cX6_canFire 5 = .ok (.ifCond .eq 22, 3) := by decide +kernel
theorem dX6_canFire_8 : decode cX6_canFire 8 = .ok (.aload_n 1, 1) := by decide +kernel
theorem dX6_canFire_9 : decode cX6_canFire 9 = .ok (.iload_n 2, 1) := by decide +kernel
theorem dX6_canFire_10 : decode cX6_canFire 10 = .ok (.aload_n 0, 1) := by decide +kernel
theorem dX6_canFire_11 : decode cX6_canFire 11 = .ok (.getfield 16, 3) := by decide +kernel
theorem dX6_canFire_14 : decode cX6_canFire 14 = .ok (.iconst 5, 1) := by decide +kernel
theorem dX6_canFire_15 : decode cX6_canFire 15 = .ok (.iload_n 3, 1) := by decide +kernel
theorem dX6_canFire_16 : decode cX6_canFire 16 = .ok (.imul, 1) := by decide +kernel
theorem dX6_canFire_17 : decode cX6_canFire 17 = .ok (.invokestatic 83, 3) := by decide +kernel
theorem dX6_canFire_20 : decode cX6_canFire 20 = .ok (.ifCond .eq 7, 3) := by decide +kernel
theorem dX6_canFire_23 : decode cX6_canFire 23 = .ok (.iconst 1, 1) := by decide +kernel
theorem dX6_canFire_24 : decode cX6_canFire 24 = .ok (.goto 4, 3) := by decide +kernel
theorem dX6_canFire_27 : decode cX6_canFire 27 = .ok (.iconst 0, 1) := by decide +kernel
theorem dX6_canFire_28 : decode cX6_canFire 28 = .ok (.ireturn, 1) := by decide +kernel
set_option maxRecDepth 20000 in
theorem ggX6_leads_X6_canFire : GoodIn wsX6_leads wsX6_canFire := goodIn_r _ [8, 3, 9, 10, 11, 7, 12, 13, 14, 15, 16, 23, 24, 25, 26, 27, 28, 29, 30, 31, 32, 33, 34, 35, 36, 37, 38, 39, 40, 41, 42, 43, 44, 45, 46, 47, 48, 49] (by decide +kernel) (by decide +kernel)
set_option maxRecDepth 20000 in
theorem gX6_leads_X6_canFire : GoodIn wsX6_leads (wsV RX6 116 RX6 yX6_canFire wsX6_canFire) := goodIn_app (goodIn_of _ (by decide +kernel)) ggX6_leads_X6_canFire
set_option maxRecDepth 20000 in
theorem ggX6_leads_X6_isInRound : GoodIn wsX6_leads wsX6_isInRound := goodIn_r _ [20, 21, 22, 14, 15, 7, 16, 23, 24, 25, 26, 27, 28, 29, 30, 31, 32, 33, 34, 35, 36, 37, 38, 39, 40, 41, 42, 43, 44, 45, 46, 47, 48, 49] (by decide +kernel) (by decide +kernel)
set_option maxRecDepth 20000 in
theorem gX6_leads_X6_isInRound : GoodIn wsX6_leads (wsV RX6 119 RX6 yX6_isInRound wsX6_isInRound) := goodIn_app (goodIn_of _ (by decide +kernel)) ggX6_leads_X6_isInRound
theorem dX6_leads_0 : decode cX6_leads 0 = .ok (.aload_n 0, 1) := by decide +kernel
theorem dX6_leads_1 : decode cX6_leads 1 = .ok (.aload_n 1, 1) := by decide +kernel
theorem dX6_leads_2 : decode cX6_leads 2 = .ok (.iconst 0, 1) := by decide +kernel
theorem dX6_leads_3 : decode cX6_leads 3 = .ok (.iload_n 2, 1) := by decide +kernel
theorem dX6_leads_4 : decode cX6_leads 4 = .ok (.invokevirtual 116, 3) := by decide +kernel
theorem dX6_leads_7 : decode cX6_leads 7 = .ok (.ifCond .ne 5, 3) := by decide +kernel
theorem dX6_leads_10 : decode cX6_leads 10 = .ok (.iconst 0, 1) := by decide +kernel
theorem dX6_leads_11 : decode cX6_leads 11 = .ok (.ireturn, 1) := by decide +kernel
theorem dX6_leads_12 : decode cX6_leads 12 = .ok (.iconst 0, 1) := by decide +kernel
theorem dX6_leads_13 : decode cX6_leads 13 = .ok (.istore 4, 2) := by decide +kernel
theorem dX6_leads_15 : decode cX6_leads 15 = .ok (.iload 4, 2) := by decide +kernel
theorem dX6_leads_17 : decode cX6_leads 17 = .ok (.iconst 5, 1) := by decide +kernel
theorem dX6_leads_18 : decode cX6_leads 18 = .ok (.if_icmp .ge 44, 3) := by decide +kernel
theorem dX6_leads_21 : decode cX6_leads 21 = .ok (.aload_n 0, 1) := by decide +kernel
theorem dX6_leads_22 : decode cX6_leads 22 = .ok (.getfield 54, 3) := by decide +kernel
theorem dX6_leads_25 : decode cX6_leads 25 = .ok (.iload 4, 2) := by decide +kernel
theorem dX6_leads_27 : decode cX6_leads 27 = .ok (.aload_n 1, 1) := by decide +kernel
theorem dX6_leads_28 : decode cX6_leads 28 = .ok (.iload 4, 2) := by decide +kernel
theorem dX6_leads_30 : decode cX6_leads 30 = .ok (.iaload, 1) := by decide +kernel
theorem dX6_leads_31 : decode cX6_leads 31 = .ok (.aload_n 0, 1) := by decide +kernel
theorem dX6_leads_32 : decode cX6_leads 32 = .ok (.getfield 19, 3) := by decide +kernel
theorem dX6_leads_35 : decode cX6_leads 35 = .ok (.iconst 5, 1) := by decide +kernel
theorem dX6_leads_36 : decode cX6_leads 36 = .ok (.iload_n 2, 1) := by decide +kernel
theorem dX6_leads_37 : decode cX6_leads 37 = .ok (.imul, 1) := by decide +kernel
theorem dX6_leads_38 : decode cX6_leads 38 = .ok (.iload 4, 2) := by decide +kernel
theorem dX6_leads_40 : decode cX6_leads 40 = .ok (.iadd, 1) := by decide +kernel
theorem dX6_leads_41 : decode cX6_leads 41 = .ok (.iaload, 1) := by decide +kernel
theorem dX6_leads_42 : decode cX6_leads 42 = .ok (.iadd, 1) := by decide +kernel
theorem dX6_leads_43 : decode cX6_leads 43 = .ok (.aload_n 0, 1) := by decide +kernel
theorem dX6_leads_44 : decode cX6_leads 44 = .ok (.getfield 16, 3) := by decide +kernel
theorem dX6_leads_47 : decode cX6_leads 47 = .ok (.iconst 5, 1) := by decide +kernel
theorem dX6_leads_48 : decode cX6_leads 48 = .ok (.iload_n 2, 1) := by decide +kernel
theorem dX6_leads_49 : decode cX6_leads 49 = .ok (.imul, 1) := by decide +kernel
theorem dX6_leads_50 : decode cX6_leads 50 = .ok (.iload 4, 2) := by decide +kernel
theorem dX6_leads_52 : decode cX6_leads 52 = .ok (.iadd, 1) := by decide +kernel
theorem dX6_leads_53 : decode cX6_leads 53 = .ok (.iaload, 1) := by decide +kernel
theorem dX6_leads_54 : decode cX6_leads 54 = .ok (.isub, 1) := by decide +kernel
theorem dX6_leads_55 : decode cX6_leads 55 = .ok (.iastore, 1) := by decide +kernel
theorem dX6_leads_56 : decode cX6_leads 56 = .ok (.iinc 4 1, 3) := by decide +kernel
theorem dX6_leads_59 : decode cX6_leads 59 = .ok (.goto (-44), 3) := by decide +kernel
theorem dX6_leads_62 : decode cX6_leads 62 = .ok (.aload_n 0, 1) := by decide +kernel
theorem dX6_leads_63 : decode cX6_leads 63 = .ok (.aload_n 0, 1) := by decide +kernel
theorem dX6_leads_64 : decode cX6_leads 64 = .ok (.getfield 54, 3) := by decide +kernel
theorem dX6_leads_67 : decode cX6_leads 67 = .ok (.iload_n 3, 1) := by decide +kernel
theorem dX6_leads_68 : decode cX6_leads 68 = .ok (.invokevirtual 119, 3) := by decide +kernel
theorem dX6_leads_71 : decode cX6_leads 71 = .ok (.ireturn, 1) := by decide +kernel
theorem dX6_steps_0 : decode cX6_steps 0 = .ok (.aload_n 0, 1) := by decide +kernel
theorem dX6_steps_1 : decode cX6_steps 1 = .ok (.getfield 25, 3) := by decide +kernel
theorem dX6_steps_4 : decode cX6_steps 4 = .ok (.iconst 1, 1) := by decide +kernel
theorem dX6_steps_5 : decode cX6_steps 5 = .ok (.if_icmp .ne 10, 3) := by decide +kernel
theorem dX6_steps_8 : decode cX6_steps 8 = .ok (.aload_n 0, 1) := by decide +kernel
theorem dX6_steps_9 : decode cX6_steps 9 = .ok (.getfield 96, 3) := by decide +kernel
theorem dX6_steps_12 : decode cX6_steps 12 = .ok (.goto 4, 3) := by decide +kernel
theorem dX6_steps_15 : decode cX6_steps 15 = .ok (.iconst (-1), 1) := by decide +kernel
theorem dX6_steps_16 : decode cX6_steps 16 = .ok (.ireturn, 1) := by decide +kernel
theorem dX6_witness_0 : decode cX6_witness 0 = .ok (.aload_n 0, 1) := by decide +kernel
theorem dX6_witness_1 : decode cX6_witness 1 = .ok (.getfield 25, 3) := by decide +kernel
theorem dX6_witness_4 : decode cX6_witness 4 = .ok (.iconst 1, 1) := by decide +kernel
theorem dX6_witness_5 : decode cX6_witness 5 = .ok (.if_icmp .ne 24, 3) := by decide +kernel
theorem dX6_witness_8 : decode cX6_witness 8 = .ok (.iload_n 1, 1) := by decide +kernel
theorem dX6_witness_9 : decode cX6_witness 9 = .ok (.ifCond .lt 20, 3) := by decide +kernel
theorem dX6_witness_12 : decode cX6_witness 12 = .ok (.iload_n 1, 1) := by decide +kernel
theorem dX6_witness_13 : decode cX6_witness 13 = .ok (.aload_n 0, 1) := by decide +kernel
theorem dX6_witness_14 : decode cX6_witness 14 = .ok (.getfield 96, 3) := by decide +kernel
theorem dX6_witness_17 : decode cX6_witness 17 = .ok (.if_icmp .ge 12, 3) := by decide +kernel
theorem dX6_witness_20 : decode cX6_witness 20 = .ok (.aload_n 0, 1) := by decide +kernel
theorem dX6_witness_21 : decode cX6_witness 21 = .ok (.getfield 42, 3) := by decide +kernel
theorem dX6_witness_24 : decode cX6_witness 24 = .ok (.iload_n 1, 1) := by decide +kernel
theorem dX6_witness_25 : decode cX6_witness 25 = .ok (.iaload, 1) := by decide +kernel
theorem dX6_witness_26 : decode cX6_witness 26 = .ok (.goto 4, 3) := by decide +kernel
theorem dX6_witness_29 : decode cX6_witness 29 = .ok (.iconst (-1), 1) := by decide +kernel
theorem dX6_witness_30 : decode cX6_witness 30 = .ok (.ireturn, 1) := by decide +kernel
theorem dX6_least_0 : decode cX6_least 0 = .ok (.aload_n 0, 1) := by decide +kernel
theorem dX6_least_1 : decode cX6_least 1 = .ok (.getfield 25, 3) := by decide +kernel
theorem dX6_least_4 : decode cX6_least 4 = .ok (.iconst 2, 1) := by decide +kernel
theorem dX6_least_5 : decode cX6_least 5 = .ok (.if_icmp .ge 24, 3) := by decide +kernel
theorem dX6_least_8 : decode cX6_least 8 = .ok (.iload_n 1, 1) := by decide +kernel
theorem dX6_least_9 : decode cX6_least 9 = .ok (.ifCond .lt 20, 3) := by decide +kernel
theorem dX6_least_12 : decode cX6_least 12 = .ok (.iload_n 1, 1) := by decide +kernel
theorem dX6_least_13 : decode cX6_least 13 = .ok (.aload_n 0, 1) := by decide +kernel
theorem dX6_least_14 : decode cX6_least 14 = .ok (.getfield 96, 3) := by decide +kernel
theorem dX6_least_17 : decode cX6_least 17 = .ok (.if_icmp .gt 12, 3) := by decide +kernel
theorem dX6_least_20 : decode cX6_least 20 = .ok (.aload_n 0, 1) := by decide +kernel
theorem dX6_least_21 : decode cX6_least 21 = .ok (.getfield 29, 3) := by decide +kernel
theorem dX6_least_24 : decode cX6_least 24 = .ok (.iload_n 1, 1) := by decide +kernel
theorem dX6_least_25 : decode cX6_least 25 = .ok (.iaload, 1) := by decide +kernel
theorem dX6_least_26 : decode cX6_least 26 = .ok (.goto 4, 3) := by decide +kernel
theorem dX6_least_29 : decode cX6_least 29 = .ok (.iconst (-1), 1) := by decide +kernel
theorem dX6_least_30 : decode cX6_least 30 = .ok (.ireturn, 1) := by decide +kernel
set_option maxRecDepth 20000 in
theorem ggX6_isOld_X6_tops : GoodIn wsX6_isOld wsX6_tops := goodIn_r _ [6] (by decide +kernel) (by decide +kernel)
set_option maxRecDepth 20000 in
theorem gX6_isOld_X6_tops : GoodIn wsX6_isOld (va_wsS RX6 83 yX6_tops wsX6_tops) := goodIn_app (goodIn_of _ (by decide +kernel)) ggX6_isOld_X6_tops
theorem dX6_isOld_0 : decode cX6_isOld 0 = .ok (.iconst 0, 1) := by decide +kernel
theorem dX6_isOld_1 : decode cX6_isOld 1 = .ok (.istore_n 2, 1) := by decide +kernel
theorem dX6_isOld_2 : decode cX6_isOld 2 = .ok (.aload_n 0, 1) := by decide +kernel
theorem dX6_isOld_3 : decode cX6_isOld 3 = .ok (.getfield 48, 3) := by decide +kernel
theorem dX6_isOld_6 : decode cX6_isOld 6 = .ok (.iload_n 1, 1) := by decide +kernel
theorem dX6_isOld_7 : decode cX6_isOld 7 = .ok (.iaload, 1) := by decide +kernel
theorem dX6_isOld_8 : decode cX6_isOld 8 = .ok (.istore_n 3, 1) := by decide +kernel
theorem dX6_isOld_9 : decode cX6_isOld 9 = .ok (.iload_n 3, 1) := by decide +kernel
theorem dX6_isOld_10 : decode cX6_isOld 10 = .ok (.ifCond .lt 63, 3) := by decide +kernel
theorem dX6_isOld_13 : decode cX6_isOld 13 = .ok (.iload_n 2, 1) := by decide +kernel
theorem dX6_isOld_14 : decode cX6_isOld 14 = .ok (.ifCond .ne 43, 3) := by decide +kernel
theorem dX6_isOld_17 : decode cX6_isOld 17 = .ok (.aload_n 0, 1) := by decide +kernel
theorem dX6_isOld_18 : decode cX6_isOld 18 = .ok (.getfield 45, 3) := by decide +kernel
theorem dX6_isOld_21 : decode cX6_isOld 21 = .ok (.iconst 5, 1) := by decide +kernel
theorem dX6_isOld_22 : decode cX6_isOld 22 = .ok (.iload_n 3, 1) := by decide +kernel
theorem dX6_isOld_23 : decode cX6_isOld 23 = .ok (.imul, 1) := by decide +kernel
theorem dX6_isOld_24 : decode cX6_isOld 24 = .ok (.aload_n 0, 1) := by decide +kernel
theorem dX6_isOld_25 : decode cX6_isOld 25 = .ok (.getfield 45, 3) := by decide +kernel
theorem dX6_isOld_28 : decode cX6_isOld 28 = .ok (.iconst 5, 1) := by decide +kernel
theorem dX6_isOld_29 : decode cX6_isOld 29 = .ok (.iload_n 1, 1) := by decide +kernel
theorem dX6_isOld_30 : decode cX6_isOld 30 = .ok (.imul, 1) := by decide +kernel
theorem dX6_isOld_31 : decode cX6_isOld 31 = .ok (.invokestatic 83, 3) := by decide +kernel
theorem dX6_isOld_34 : decode cX6_isOld 34 = .ok (.ifCond .eq 27, 3) := by decide +kernel
theorem dX6_isOld_37 : decode cX6_isOld 37 = .ok (.aload_n 0, 1) := by decide +kernel
theorem dX6_isOld_38 : decode cX6_isOld 38 = .ok (.getfield 45, 3) := by decide +kernel
theorem dX6_isOld_41 : decode cX6_isOld 41 = .ok (.iconst 5, 1) := by decide +kernel
theorem dX6_isOld_42 : decode cX6_isOld 42 = .ok (.iload_n 1, 1) := by decide +kernel
theorem dX6_isOld_43 : decode cX6_isOld 43 = .ok (.imul, 1) := by decide +kernel
theorem dX6_isOld_44 : decode cX6_isOld 44 = .ok (.aload_n 0, 1) := by decide +kernel
theorem dX6_isOld_45 : decode cX6_isOld 45 = .ok (.getfield 45, 3) := by decide +kernel
theorem dX6_isOld_48 : decode cX6_isOld 48 = .ok (.iconst 5, 1) := by decide +kernel
theorem dX6_isOld_49 : decode cX6_isOld 49 = .ok (.iload_n 3, 1) := by decide +kernel
theorem dX6_isOld_50 : decode cX6_isOld 50 = .ok (.imul, 1) := by decide +kernel
theorem dX6_isOld_51 : decode cX6_isOld 51 = .ok (.invokestatic 83, 3) := by decide +kernel
theorem dX6_isOld_54 : decode cX6_isOld 54 = .ok (.ifCond .eq 7, 3) := by decide +kernel
theorem dX6_isOld_57 : decode cX6_isOld 57 = .ok (.iconst 1, 1) := by decide +kernel
theorem dX6_isOld_58 : decode cX6_isOld 58 = .ok (.goto 4, 3) := by decide +kernel
theorem dX6_isOld_61 : decode cX6_isOld 61 = .ok (.iconst 0, 1) := by decide +kernel
theorem dX6_isOld_62 : decode cX6_isOld 62 = .ok (.istore_n 2, 1) := by decide +kernel
theorem dX6_isOld_63 : decode cX6_isOld 63 = .ok (.aload_n 0, 1) := by decide +kernel
theorem dX6_isOld_64 : decode cX6_isOld 64 = .ok (.getfield 48, 3) := by decide +kernel
theorem dX6_isOld_67 : decode cX6_isOld 67 = .ok (.iload_n 3, 1) := by decide +kernel
theorem dX6_isOld_68 : decode cX6_isOld 68 = .ok (.iaload, 1) := by decide +kernel
theorem dX6_isOld_69 : decode cX6_isOld 69 = .ok (.istore_n 3, 1) := by decide +kernel
theorem dX6_isOld_70 : decode cX6_isOld 70 = .ok (.goto (-61), 3) := by decide +kernel
theorem dX6_isOld_73 : decode cX6_isOld 73 = .ok (.iload_n 2, 1) := by decide +kernel
theorem dX6_isOld_74 : decode cX6_isOld 74 = .ok (.ireturn, 1) := by decide +kernel
set_option maxRecDepth 20000 in
theorem ggX6_accelerate_X6_tops : GoodIn wsX6_accelerate wsX6_tops := goodIn_r _ [8] (by decide +kernel) (by decide +kernel)
set_option maxRecDepth 20000 in
theorem gX6_accelerate_X6_tops : GoodIn wsX6_accelerate (va_wsS RX6 83 yX6_tops wsX6_tops) := goodIn_app (goodIn_of _ (by decide +kernel)) ggX6_accelerate_X6_tops
theorem dX6_accelerate_0 : decode cX6_accelerate 0 = .ok (.iconst 1, 1) := by decide +kernel
theorem dX6_accelerate_1 : decode cX6_accelerate 1 = .ok (.istore_n 2, 1) := by decide +kernel
theorem dX6_accelerate_2 : decode cX6_accelerate 2 = .ok (.iload_n 2, 1) := by decide +kernel
theorem dX6_accelerate_3 : decode cX6_accelerate 3 = .ok (.ifCond .eq 136, 3) := by decide +kernel
theorem dX6_accelerate_6 : decode cX6_accelerate 6 = .ok (.iconst 0, 1) := by decide +kernel
theorem dX6_accelerate_7 : decode cX6_accelerate 7 = .ok (.istore_n 2, 1) := by decide +kernel
theorem dX6_accelerate_8 : decode cX6_accelerate 8 = .ok (.iload_n 1, 1) := by decide +kernel
theorem dX6_accelerate_9 : decode cX6_accelerate 9 = .ok (.istore_n 3, 1) := by decide +kernel
theorem dX6_accelerate_10 : decode cX6_accelerate 10 = .ok (.iload_n 3, 1) := by decide +kernel
theorem dX6_accelerate_11 : decode cX6_accelerate 11 = .ok (.ifCond .lt 125, 3) := by decide +kernel
theorem dX6_accelerate_14 : decode cX6_accelerate 14 = .ok (.aload_n 0, 1) := by decide +kernel
theorem dX6_accelerate_15 : decode cX6_accelerate 15 = .ok (.getfield 54, 3) := by decide +kernel
theorem dX6_accelerate_18 : decode cX6_accelerate 18 = .ok (.iconst 0, 1) := by decide +kernel
theorem dX6_accelerate_19 : decode cX6_accelerate 19 = .ok (.aload_n 0, 1) := by decide +kernel
theorem dX6_accelerate_20 : decode cX6_accelerate 20 = .ok (.getfield 45, 3) := by decide +kernel
theorem dX6_accelerate_23 : decode cX6_accelerate 23 = .ok (.iconst 5, 1) := by decide +kernel
theorem dX6_accelerate_24 : decode cX6_accelerate 24 = .ok (.iload_n 3, 1) := by decide +kernel
theorem dX6_accelerate_25 : decode cX6_accelerate 25 = .ok (.imul, 1) := by decide +kernel
theorem dX6_accelerate_26 : decode cX6_accelerate 26 = .ok (.invokestatic 83, 3) := by decide +kernel
theorem dX6_accelerate_29 : decode cX6_accelerate 29 = .ok (.ifCond .eq 97, 3) := by decide +kernel
theorem dX6_accelerate_32 : decode cX6_accelerate 32 = .ok (.iconst 0, 1) := by decide +kernel
theorem dX6_accelerate_33 : decode cX6_accelerate 33 = .ok (.istore 4, 2) := by decide +kernel
theorem dX6_accelerate_35 : decode cX6_accelerate 35 = .ok (.iload 4, 2) := by decide +kernel
theorem dX6_accelerate_37 : decode cX6_accelerate 37 = .ok (.iconst 5, 1) := by decide +kernel
theorem dX6_accelerate_38 : decode cX6_accelerate 38 = .ok (.if_icmp .ge 88, 3) := by decide +kernel
theorem dX6_accelerate_41 : decode cX6_accelerate 41 = .ok (.aload_n 0, 1) := by decide +kernel
theorem dX6_accelerate_42 : decode cX6_accelerate 42 = .ok (.getfield 54, 3) := by decide +kernel
theorem dX6_accelerate_45 : decode cX6_accelerate 45 = .ok (.iload 4, 2) := by decide +kernel
theorem dX6_accelerate_47 : decode cX6_accelerate 47 = .ok (.iaload, 1) := by decide +kernel
theorem dX6_accelerate_48 : decode cX6_accelerate 48 = .ok (.aload_n 0, 1) := by decide +kernel
theorem dX6_accelerate_49 : decode cX6_accelerate 49 = .ok (.getfield 45, 3) := by decide +kernel
theorem dX6_accelerate_52 : decode cX6_accelerate 52 = .ok (.iconst 5, 1) := by decide +kernel
theorem dX6_accelerate_53 : decode cX6_accelerate 53 = .ok (.iload_n 3, 1) := by decide +kernel
theorem dX6_accelerate_54 : decode cX6_accelerate 54 = .ok (.imul, 1) := by decide +kernel
theorem dX6_accelerate_55 : decode cX6_accelerate 55 = .ok (.iload 4, 2) := by decide +kernel
theorem dX6_accelerate_57 : decode cX6_accelerate 57 = .ok (.iadd, 1) := by decide +kernel
theorem dX6_accelerate_58 : decode cX6_accelerate 58 = .ok (.iaload, 1) := by decide +kernel
theorem dX6_accelerate_59 : decode cX6_accelerate 59 = .ok (.if_icmp .le 19, 3) := by decide +kernel
theorem dX6_accelerate_62 : decode cX6_accelerate 62 = .ok (.aload_n 0, 1) := by decide +kernel
theorem dX6_accelerate_63 : decode cX6_accelerate 63 = .ok (.getfield 54, 3) := by decide +kernel
theorem dX6_accelerate_66 : decode cX6_accelerate 66 = .ok (.iload 4, 2) := by decide +kernel
theorem dX6_accelerate_68 : decode cX6_accelerate 68 = .ok (.iaload, 1) := by decide +kernel
theorem dX6_accelerate_69 : decode cX6_accelerate 69 = .ok (.ldc 123, 2) := by decide +kernel
theorem dX6_accelerate_71 : decode cX6_accelerate 71 = .ok (.if_icmp .ge 7, 3) := by decide +kernel
theorem dX6_accelerate_74 : decode cX6_accelerate 74 = .ok (.iconst 1, 1) := by decide +kernel
theorem dX6_accelerate_75 : decode cX6_accelerate 75 = .ok (.goto 4, 3) := by decide +kernel
theorem dX6_accelerate_78 : decode cX6_accelerate 78 = .ok (.iconst 0, 1) := by decide +kernel
theorem dX6_accelerate_79 : decode cX6_accelerate 79 = .ok (.istore 5, 2) := by decide +kernel
theorem dX6_accelerate_81 : decode cX6_accelerate 81 = .ok (.aload_n 0, 1) := by decide +kernel
theorem dX6_accelerate_82 : decode cX6_accelerate 82 = .ok (.getfield 54, 3) := by decide +kernel
theorem dX6_accelerate_85 : decode cX6_accelerate 85 = .ok (.iload 4, 2) := by decide +kernel
theorem dX6_accelerate_87 : decode cX6_accelerate 87 = .ok (.iload 5, 2) := by decide +kernel
theorem dX6_accelerate_89 : decode cX6_accelerate 89 = .ok (.ifCond .eq 8, 3) := by decide +kernel
theorem dX6_accelerate_92 : decode cX6_accelerate 92 = .ok (.ldc 123, 2) := by decide +kernel
theorem dX6_accelerate_94 : decode cX6_accelerate 94 = .ok (.goto 10, 3) := by decide +kernel
theorem dX6_accelerate_97 : decode cX6_accelerate 97 = .ok (.aload_n 0, 1) := by decide +kernel
theorem dX6_accelerate_98 : decode cX6_accelerate 98 = .ok (.getfield 54, 3) := by decide +kernel
theorem dX6_accelerate_101 : decode cX6_accelerate 101 = .ok (.iload 4, 2) := by decide +kernel
theorem dX6_accelerate_103 : decode cX6_accelerate 103 = .ok (.iaload, 1) := by decide +kernel
theorem dX6_accelerate_104 : decode cX6_accelerate 104 = .ok (.iastore, 1) := by decide +kernel
theorem dX6_accelerate_105 : decode cX6_accelerate 105 = .ok (.iload_n 2, 1) := by decide +kernel
theorem dX6_accelerate_106 : decode cX6_accelerate 106 = .ok (.ifCond .ne 8, 3) := by decide +kernel
theorem dX6_accelerate_109 : decode cX6_accelerate 109 = .ok (.iload 5, 2) := by decide +kernel
theorem dX6_accelerate_111 : decode cX6_accelerate 111 = .ok (.ifCond .eq 7, 3) := by decide +kernel
theorem dX6_accelerate_114 : decode cX6_accelerate 114 = .ok (.iconst 1, 1) := by decide +kernel
theorem dX6_accelerate_115 : decode cX6_accelerate 115 = .ok (.goto 4, 3) := by decide +kernel
theorem dX6_accelerate_118 : decode cX6_accelerate 118 = .ok (.iconst 0, 1) := by decide +kernel
theorem dX6_accelerate_119 : decode cX6_accelerate 119 = .ok (.istore_n 2, 1) := by decide +kernel
theorem dX6_accelerate_120 : decode cX6_accelerate 120 = .ok (.iinc 4 1, 3) := by decide +kernel
theorem dX6_accelerate_123 : decode cX6_accelerate 123 = .ok (.goto (-88), 3) := by decide +kernel
theorem dX6_accelerate_126 : decode cX6_accelerate 126 = .ok (.aload_n 0, 1) := by decide +kernel
theorem dX6_accelerate_127 : decode cX6_accelerate 127 = .ok (.getfield 48, 3) := by decide +kernel
theorem dX6_accelerate_130 : decode cX6_accelerate 130 = .ok (.iload_n 3, 1) := by decide +kernel
theorem dX6_accelerate_131 : decode cX6_accelerate 131 = .ok (.iaload, 1) := by decide +kernel
theorem dX6_accelerate_132 : decode cX6_accelerate 132 = .ok (.istore_n 3, 1) := by decide +kernel
theorem dX6_accelerate_133 : decode cX6_accelerate 133 = .ok (.goto (-123), 3) := by decide +kernel
theorem dX6_accelerate_136 : decode cX6_accelerate 136 = .ok (.goto (-134), 3) := by decide +kernel
theorem dX6_accelerate_139 : decode cX6_accelerate 139 = .ok (.return_, 1) := by decide +kernel
set_option maxRecDepth 20000 in
theorem ggX6_grow_X6_isOld : GoodIn wsX6_grow wsX6_isOld := goodIn_r _ [17, 3, 4, 18, 19, 16, 20, 44, 45, 46, 47, 48, 49, 50, 51, 52, 53, 54, 55, 56, 57, 58, 59, 60, 61, 62, 63, 64, 65, 66, 67, 68, 69, 70] (by decide +kernel) (by decide +kernel)
set_option maxRecDepth 20000 in
theorem gX6_grow_X6_isOld : GoodIn wsX6_grow (wsV RX6 131 RX6 yX6_isOld wsX6_isOld) := goodIn_app (goodIn_of _ (by decide +kernel)) ggX6_grow_X6_isOld
set_option maxRecDepth 20000 in
theorem ggX6_grow_X6_canFire : GoodIn wsX6_grow wsX6_canFire := goodIn_r _ [24, 10, 25, 26, 27, 16, 28, 6, 18, 19, 20, 44, 45, 46, 47, 48, 49, 50, 51, 52, 53, 54, 55, 56, 57, 58, 59, 60, 61, 62, 63, 64, 65, 66, 67, 68, 69, 70] (by decide +kernel) (by decide +kernel)
set_option maxRecDepth 20000 in
theorem gX6_grow_X6_canFire : GoodIn wsX6_grow (wsV RX6 116 RX6 yX6_canFire wsX6_canFire) := goodIn_app (goodIn_of _ (by decide +kernel)) ggX6_grow_X6_canFire
set_option maxRecDepth 20000 in
theorem ggX6_grow_X6_accelerate : GoodIn wsX6_grow wsX6_accelerate := goodIn_r _ [32, 7, 4, 8, 3, 18, 19, 16, 20, 44, 45, 46, 47, 48, 49, 50, 51, 52, 53, 54, 55, 56, 57, 58, 59, 60, 61, 62, 63, 64, 65, 66, 67, 68, 69, 70] (by decide +kernel) (by decide +kernel)
set_option maxRecDepth 20000 in
theorem gX6_grow_X6_accelerate : GoodIn wsX6_grow (wsV RX6 134 RX6 yX6_accelerate wsX6_accelerate) := goodIn_app (goodIn_of _ (by decide +kernel)) ggX6_grow_X6_accelerate
set_option maxRecDepth 20000 in
theorem ggX6_grow_X6_tellTree : GoodIn wsX6_grow wsX6_tellTree := goodIn_r _ [36, 37, 2, 6, 4, 38, 39, 21, 22, 23, 16, 24, 10, 25, 26, 27, 28, 18, 19, 20, 40, 41, 42, 43, 44, 45, 46, 47, 48, 49, 50, 51, 52, 53, 54, 55, 56, 57, 58, 59, 60, 61, 62, 63, 64, 65, 66, 67, 68, 69, 70] (by decide +kernel) (by decide +kernel)
set_option maxRecDepth 20000 in
theorem gX6_grow_X6_tellTree : GoodIn wsX6_grow (wsV RX6 141 RX6 yX6_tellTree wsX6_tellTree) := goodIn_app (goodIn_of _ (by decide +kernel)) ggX6_grow_X6_tellTree
theorem dX6_grow_0 : decode cX6_grow 0 = .ok (.aload_n 0, 1) := by decide +kernel
theorem dX6_grow_1 : decode cX6_grow 1 = .ok (.iconst 0, 1) := by decide +kernel
theorem dX6_grow_2 : decode cX6_grow 2 = .ok (.putfield 124, 3) := by decide +kernel
theorem dX6_grow_5 : decode cX6_grow 5 = .ok (.aload_n 0, 1) := by decide +kernel
theorem dX6_grow_6 : decode cX6_grow 6 = .ok (.iconst 1, 1) := by decide +kernel
theorem dX6_grow_7 : decode cX6_grow 7 = .ok (.putfield 128, 3) := by decide +kernel
theorem dX6_grow_10 : decode cX6_grow 10 = .ok (.aload_n 0, 1) := by decide +kernel
theorem dX6_grow_11 : decode cX6_grow 11 = .ok (.getfield 48, 3) := by decide +kernel
theorem dX6_grow_14 : decode cX6_grow 14 = .ok (.iconst 0, 1) := by decide +kernel
theorem dX6_grow_15 : decode cX6_grow 15 = .ok (.iconst (-1), 1) := by decide +kernel
theorem dX6_grow_16 : decode cX6_grow 16 = .ok (.iastore, 1) := by decide +kernel
theorem dX6_grow_17 : decode cX6_grow 17 = .ok (.iconst 0, 1) := by decide +kernel
theorem dX6_grow_18 : decode cX6_grow 18 = .ok (.istore_n 1, 1) := by decide +kernel
theorem dX6_grow_19 : decode cX6_grow 19 = .ok (.iload_n 1, 1) := by decide +kernel
theorem dX6_grow_20 : decode cX6_grow 20 = .ok (.iconst 5, 1) := by decide +kernel
theorem dX6_grow_21 : decode cX6_grow 21 = .ok (.if_icmp .ge 21, 3) := by decide +kernel
theorem dX6_grow_24 : decode cX6_grow 24 = .ok (.aload_n 0, 1) := by decide +kernel
theorem dX6_grow_25 : decode cX6_grow 25 = .ok (.getfield 45, 3) := by decide +kernel
theorem dX6_grow_28 : decode cX6_grow 28 = .ok (.iload_n 1, 1) := by decide +kernel
theorem dX6_grow_29 : decode cX6_grow 29 = .ok (.aload_n 0, 1) := by decide +kernel
theorem dX6_grow_30 : decode cX6_grow 30 = .ok (.getfield 7, 3) := by decide +kernel
theorem dX6_grow_33 : decode cX6_grow 33 = .ok (.iload_n 1, 1) := by decide +kernel
theorem dX6_grow_34 : decode cX6_grow 34 = .ok (.iaload, 1) := by decide +kernel
theorem dX6_grow_35 : decode cX6_grow 35 = .ok (.iastore, 1) := by decide +kernel
theorem dX6_grow_36 : decode cX6_grow 36 = .ok (.iinc 1 1, 3) := by decide +kernel
theorem dX6_grow_39 : decode cX6_grow 39 = .ok (.goto (-20), 3) := by decide +kernel
theorem dX6_grow_42 : decode cX6_grow 42 = .ok (.iconst 0, 1) := by decide +kernel
theorem dX6_grow_43 : decode cX6_grow 43 = .ok (.istore_n 1, 1) := by decide +kernel
theorem dX6_grow_44 : decode cX6_grow 44 = .ok (.iload_n 1, 1) := by decide +kernel
theorem dX6_grow_45 : decode cX6_grow 45 = .ok (.aload_n 0, 1) := by decide +kernel
theorem dX6_grow_46 : decode cX6_grow 46 = .ok (.getfield 128, 3) := by decide +kernel
theorem dX6_grow_49 : decode cX6_grow 49 = .ok (.if_icmp .ge 192, 3) := by decide +kernel
theorem dX6_grow_52 : decode cX6_grow 52 = .ok (.aload_n 0, 1) := by decide +kernel
theorem dX6_grow_53 : decode cX6_grow 53 = .ok (.getfield 128, 3) := by decide +kernel
theorem dX6_grow_56 : decode cX6_grow 56 = .ok (.sipush 1000, 3) := by decide +kernel
theorem dX6_grow_59 : decode cX6_grow 59 = .ok (.if_icmp .gt 182, 3) := by decide +kernel
theorem dX6_grow_62 : decode cX6_grow 62 = .ok (.iconst 0, 1) := by decide +kernel
theorem dX6_grow_63 : decode cX6_grow 63 = .ok (.istore_n 2, 1) := by decide +kernel
theorem dX6_grow_64 : decode cX6_grow 64 = .ok (.iload_n 2, 1) := by decide +kernel
theorem dX6_grow_65 : decode cX6_grow 65 = .ok (.aload_n 0, 1) := by decide +kernel
theorem dX6_grow_66 : decode cX6_grow 66 = .ok (.getfield 63, 3) := by decide +kernel
theorem dX6_grow_69 : decode cX6_grow 69 = .ok (.if_icmp .ge 166, 3) := by decide +kernel
theorem dX6_grow_72 : decode cX6_grow 72 = .ok (.aload_n 0, 1) := by decide +kernel
theorem dX6_grow_73 : decode cX6_grow 73 = .ok (.iload_n 1, 1) := by decide +kernel
theorem dX6_grow_74 : decode cX6_grow 74 = .ok (.invokevirtual 131, 3) := by decide +kernel
theorem dX6_grow_77 : decode cX6_grow 77 = .ok (.ifCond .ne 158, 3) := by decide +kernel
theorem dX6_grow_80 : decode cX6_grow 80 = .ok (.aload_n 0, 1) := by decide +kernel
theorem dX6_grow_81 : decode cX6_grow 81 = .ok (.getfield 128, 3) := by decide +kernel
theorem dX6_grow_84 : decode cX6_grow 84 = .ok (.sipush 1000, 3) := by decide +kernel
theorem dX6_grow_87 : decode cX6_grow 87 = .ok (.if_icmp .gt 148, 3) := by decide +kernel
theorem dX6_grow_90 : decode cX6_grow 90 = .ok (.aload_n 0, 1) := by decide +kernel
theorem dX6_grow_91 : decode cX6_grow 91 = .ok (.aload_n 0, 1) := by decide +kernel
theorem dX6_grow_92 : decode cX6_grow 92 = .ok (.getfield 45, 3) := by decide +kernel
theorem dX6_grow_95 : decode cX6_grow 95 = .ok (.iconst 5, 1) := by decide +kernel
theorem dX6_grow_96 : decode cX6_grow 96 = .ok (.iload_n 1, 1) := by decide +kernel
theorem dX6_grow_97 : decode cX6_grow 97 = .ok (.imul, 1) := by decide +kernel
theorem dX6_grow_98 : decode cX6_grow 98 = .ok (.iload_n 2, 1) := by decide +kernel
theorem dX6_grow_99 : decode cX6_grow 99 = .ok (.invokevirtual 116, 3) := by decide +kernel
theorem dX6_grow_102 : decode cX6_grow 102 = .ok (.ifCond .eq 127, 3) := by decide +kernel
theorem dX6_grow_105 : decode cX6_grow 105 = .ok (.iconst 0, 1) := by decide +kernel
theorem dX6_grow_106 : decode cX6_grow 106 = .ok (.istore_n 3, 1) := by decide +kernel
theorem dX6_grow_107 : decode cX6_grow 107 = .ok (.iload_n 3, 1) := by decide +kernel
theorem dX6_grow_108 : decode cX6_grow 108 = .ok (.iconst 5, 1) := by decide +kernel
theorem dX6_grow_109 : decode cX6_grow 109 = .ok (.if_icmp .ge 63, 3) := by decide +kernel
theorem dX6_grow_112 : decode cX6_grow 112 = .ok (.aload_n 0, 1) := by decide +kernel
theorem dX6_grow_113 : decode cX6_grow 113 = .ok (.getfield 45, 3) := by decide +kernel
theorem dX6_grow_116 : decode cX6_grow 116 = .ok (.iconst 5, 1) := by decide +kernel
theorem dX6_grow_117 : decode cX6_grow 117 = .ok (.iload_n 1, 1) := by decide +kernel
theorem dX6_grow_118 : decode cX6_grow 118 = .ok (.imul, 1) := by decide +kernel
theorem dX6_grow_119 : decode cX6_grow 119 = .ok (.iload_n 3, 1) := by decide +kernel
theorem dX6_grow_120 : decode cX6_grow 120 = .ok (.iadd, 1) := by decide +kernel
theorem dX6_grow_121 : decode cX6_grow 121 = .ok (.iaload, 1) := by decide +kernel
theorem dX6_grow_122 : decode cX6_grow 122 = .ok (.istore 4, 2) := by decide +kernel
theorem dX6_grow_124 : decode cX6_grow 124 = .ok (.aload_n 0, 1) := by decide +kernel
theorem dX6_grow_125 : decode cX6_grow 125 = .ok (.getfield 54, 3) := by decide +kernel
theorem dX6_grow_128 : decode cX6_grow 128 = .ok (.iload_n 3, 1) := by decide +kernel
theorem dX6_grow_129 : decode cX6_grow 129 = .ok (.iload 4, 2) := by decide +kernel
theorem dX6_grow_131 : decode cX6_grow 131 = .ok (.ldc 123, 2) := by decide +kernel
theorem dX6_grow_133 : decode cX6_grow 133 = .ok (.if_icmp .ne 8, 3) := by decide +kernel
theorem dX6_grow_136 : decode cX6_grow 136 = .ok (.ldc 123, 2) := by decide +kernel
theorem dX6_grow_138 : decode cX6_grow 138 = .ok (.goto 27, 3) := by decide +kernel
theorem dX6_grow_141 : decode cX6_grow 141 = .ok (.iload 4, 2) := by decide +kernel
theorem dX6_grow_143 : decode cX6_grow 143 = .ok (.aload_n 0, 1) := by decide +kernel
theorem dX6_grow_144 : decode cX6_grow 144 = .ok (.getfield 19, 3) := by decide +kernel
theorem dX6_grow_147 : decode cX6_grow 147 = .ok (.iconst 5, 1) := by decide +kernel
theorem dX6_grow_148 : decode cX6_grow 148 = .ok (.iload_n 2, 1) := by decide +kernel
theorem dX6_grow_149 : decode cX6_grow 149 = .ok (.imul, 1) := by decide +kernel
theorem dX6_grow_150 : decode cX6_grow 150 = .ok (.iload_n 3, 1) := by decide +kernel
theorem dX6_grow_151 : decode cX6_grow 151 = .ok (.iadd, 1) := by decide +kernel
theorem dX6_grow_152 : decode cX6_grow 152 = .ok (.iaload, 1) := by decide +kernel
theorem dX6_grow_153 : decode cX6_grow 153 = .ok (.iadd, 1) := by decide +kernel
theorem dX6_grow_154 : decode cX6_grow 154 = .ok (.aload_n 0, 1) := by decide +kernel
theorem dX6_grow_155 : decode cX6_grow 155 = .ok (.getfield 16, 3) := by decide +kernel
theorem dX6_grow_158 : decode cX6_grow 158 = .ok (.iconst 5, 1) := by decide +kernel
theorem dX6_grow_159 : decode cX6_grow 159 = .ok (.iload_n 2, 1) := by decide +kernel
theorem dX6_grow_160 : decode cX6_grow 160 = .ok (.imul, 1) := by decide +kernel
theorem dX6_grow_161 : decode cX6_grow 161 = .ok (.iload_n 3, 1) := by decide +kernel
theorem dX6_grow_162 : decode cX6_grow 162 = .ok (.iadd, 1) := by decide +kernel
theorem dX6_grow_163 : decode cX6_grow 163 = .ok (.iaload, 1) := by decide +kernel
theorem dX6_grow_164 : decode cX6_grow 164 = .ok (.isub, 1) := by decide +kernel
theorem dX6_grow_165 : decode cX6_grow 165 = .ok (.iastore, 1) := by decide +kernel
theorem dX6_grow_166 : decode cX6_grow 166 = .ok (.iinc 3 1, 3) := by decide +kernel
theorem dX6_grow_169 : decode cX6_grow 169 = .ok (.goto (-62), 3) := by decide +kernel
theorem dX6_grow_172 : decode cX6_grow 172 = .ok (.aload_n 0, 1) := by decide +kernel
theorem dX6_grow_173 : decode cX6_grow 173 = .ok (.iload_n 1, 1) := by decide +kernel
theorem dX6_grow_174 : decode cX6_grow 174 = .ok (.invokevirtual 134, 3) := by decide +kernel
theorem dX6_grow_177 : decode cX6_grow 177 = .ok (.iconst 0, 1) := by decide +kernel
theorem dX6_grow_178 : decode cX6_grow 178 = .ok (.istore_n 3, 1) := by decide +kernel
theorem dX6_grow_179 : decode cX6_grow 179 = .ok (.iload_n 3, 1) := by decide +kernel
theorem dX6_grow_180 : decode cX6_grow 180 = .ok (.iconst 5, 1) := by decide +kernel
theorem dX6_grow_181 : decode cX6_grow 181 = .ok (.if_icmp .ge 28, 3) := by decide +kernel
theorem dX6_grow_184 : decode cX6_grow 184 = .ok (.aload_n 0, 1) := by decide +kernel
theorem dX6_grow_185 : decode cX6_grow 185 = .ok (.getfield 45, 3) := by decide +kernel
theorem dX6_grow_188 : decode cX6_grow 188 = .ok (.iconst 5, 1) := by decide +kernel
theorem dX6_grow_189 : decode cX6_grow 189 = .ok (.aload_n 0, 1) := by decide +kernel
theorem dX6_grow_190 : decode cX6_grow 190 = .ok (.getfield 128, 3) := by decide +kernel
theorem dX6_grow_193 : decode cX6_grow 193 = .ok (.imul, 1) := by decide +kernel
theorem dX6_grow_194 : decode cX6_grow 194 = .ok (.iload_n 3, 1) := by decide +kernel
theorem dX6_grow_195 : decode cX6_grow 195 = .ok (.iadd, 1) := by decide +kernel
theorem dX6_grow_196 : decode cX6_grow 196 = .ok (.aload_n 0, 1) := by decide +kernel
theorem dX6_grow_197 : decode cX6_grow 197 = .ok (.getfield 54, 3) := by decide +kernel
theorem dX6_grow_200 : decode cX6_grow 200 = .ok (.iload_n 3, 1) := by decide +kernel
theorem dX6_grow_201 : decode cX6_grow 201 = .ok (.iaload, 1) := by decide +kernel
theorem dX6_grow_202 : decode cX6_grow 202 = .ok (.iastore, 1) := by decide +kernel
theorem dX6_grow_203 : decode cX6_grow 203 = .ok (.iinc 3 1, 3) := by decide +kernel
theorem dX6_grow_206 : decode cX6_grow 206 = .ok (.goto (-27), 3) := by decide +kernel
theorem dX6_grow_209 : decode cX6_grow 209 = .ok (.aload_n 0, 1) := by decide +kernel
theorem dX6_grow_210 : decode cX6_grow 210 = .ok (.getfield 48, 3) := by decide +kernel
theorem dX6_grow_213 : decode cX6_grow 213 = .ok (.aload_n 0, 1) := by decide +kernel
theorem dX6_grow_214 : decode cX6_grow 214 = .ok (.getfield 128, 3) := by decide +kernel
theorem dX6_grow_217 : decode cX6_grow 217 = .ok (.iload_n 1, 1) := by decide +kernel
theorem dX6_grow_218 : decode cX6_grow 218 = .ok (.iastore, 1) := by decide +kernel
theorem dX6_grow_219 : decode cX6_grow 219 = .ok (.aload_n 0, 1) := by decide +kernel
theorem dX6_grow_220 : decode cX6_grow 220 = .ok (.dup, 1) := by decide +kernel
theorem dX6_grow_221 : decode cX6_grow 221 = .ok (.getfield 128, 3) := by decide +kernel
theorem dX6_grow_224 : decode cX6_grow 224 = .ok (.iconst 1, 1) := by decide +kernel
theorem dX6_grow_225 : decode cX6_grow 225 = .ok (.iadd, 1) := by decide +kernel
theorem dX6_grow_226 : decode cX6_grow 226 = .ok (.putfield 128, 3) := by decide +kernel
theorem dX6_grow_229 : decode cX6_grow 229 = .ok (.iinc 2 1, 3) := by decide +kernel
theorem dX6_grow_232 : decode cX6_grow 232 = .ok (.goto (-168), 3) := by decide +kernel
theorem dX6_grow_235 : decode cX6_grow 235 = .ok (.iinc 1 1, 3) := by decide +kernel
theorem dX6_grow_238 : decode cX6_grow 238 = .ok (.goto (-194), 3) := by decide +kernel
theorem dX6_grow_241 : decode cX6_grow 241 = .ok (.aload_n 0, 1) := by decide +kernel
theorem dX6_grow_242 : decode cX6_grow 242 = .ok (.getfield 128, 3) := by decide +kernel
theorem dX6_grow_245 : decode cX6_grow 245 = .ok (.sipush 1000, 3) := by decide +kernel
theorem dX6_grow_248 : decode cX6_grow 248 = .ok (.if_icmp .le 5, 3) := by decide +kernel
theorem dX6_grow_251 : decode cX6_grow 251 = .ok (.iconst (-1), 1) := by decide +kernel
theorem dX6_grow_252 : decode cX6_grow 252 = .ok (.ireturn, 1) := by decide +kernel
theorem dX6_grow_253 : decode cX6_grow 253 = .ok (.aload_n 0, 1) := by decide +kernel
theorem dX6_grow_254 : decode cX6_grow 254 = .ok (.iconst 1, 1) := by decide +kernel
theorem dX6_grow_255 : decode cX6_grow 255 = .ok (.putfield 124, 3) := by decide +kernel
theorem dX6_grow_258 : decode cX6_grow 258 = .ok (.aload_n 0, 1) := by decide +kernel
theorem dX6_grow_259 : decode cX6_grow 259 = .ok (.aload_n 0, 1) := by decide +kernel
theorem dX6_grow_260 : decode cX6_grow 260 = .ok (.getfield 60, 3) := by decide +kernel
theorem dX6_grow_263 : decode cX6_grow 263 = .ok (.putfield 138, 3) := by decide +kernel
theorem dX6_grow_266 : decode cX6_grow 266 = .ok (.aload_n 0, 1) := by decide +kernel
theorem dX6_grow_267 : decode cX6_grow 267 = .ok (.invokevirtual 141, 3) := by decide +kernel
theorem dX6_grow_270 : decode cX6_grow 270 = .ok (.aload_n 0, 1) := by decide +kernel
theorem dX6_grow_271 : decode cX6_grow 271 = .ok (.getfield 128, 3) := by decide +kernel
theorem dX6_grow_274 : decode cX6_grow 274 = .ok (.ireturn, 1) := by decide +kernel
set_option maxRecDepth 20000 in
theorem ggX6_tellTree_X6_canFire : GoodIn wsX6_tellTree wsX6_canFire := goodIn_r _ [11, 12, 13, 14, 15, 10, 16, 3, 17, 18, 19, 24, 25, 26, 27, 28, 29, 30, 31, 32, 33, 34, 35, 36, 37, 38, 39, 40, 41, 42, 43, 44, 45, 46, 47, 48, 49, 50] (by decide +kernel) (by decide +kernel)
set_option maxRecDepth 20000 in
theorem gX6_tellTree_X6_canFire : GoodIn wsX6_tellTree (wsV RX6 116 RX6 yX6_canFire wsX6_canFire) := goodIn_app (goodIn_of _ (by decide +kernel)) ggX6_tellTree_X6_canFire
set_option maxRecDepth 20000 in
theorem ggX6_tellTree_X6_tops : GoodIn wsX6_tellTree wsX6_tops := goodIn_r _ [19] (by decide +kernel) (by decide +kernel)
set_option maxRecDepth 20000 in
theorem gX6_tellTree_X6_tops : GoodIn wsX6_tellTree (va_wsS RX6 83 yX6_tops wsX6_tops) := goodIn_app (goodIn_of _ (by decide +kernel)) ggX6_tellTree_X6_tops
set_option maxRecDepth 20000 in
theorem ggX6_tellTree_X6_isBefore : GoodIn wsX6_tellTree wsX6_isBefore := goodIn_r _ [23, 4, 24, 25, 26, 27, 28, 29, 30, 31, 32, 33, 34, 35, 36, 37, 38, 39, 40, 41, 42, 43, 44, 45, 46, 47, 48, 49, 50] (by decide +kernel) (by decide +kernel)
set_option maxRecDepth 20000 in
theorem gX6_tellTree_X6_isBefore : GoodIn wsX6_tellTree (wsV RX6 150 RX6 yX6_isBefore wsX6_isBefore) := goodIn_app (goodIn_of _ (by decide +kernel)) ggX6_tellTree_X6_isBefore
theorem dX6_tellTree_0 : decode cX6_tellTree 0 = .ok (.aload_n 0, 1) := by decide +kernel
theorem dX6_tellTree_1 : decode cX6_tellTree 1 = .ok (.iconst 0, 1) := by decide +kernel
theorem dX6_tellTree_2 : decode cX6_tellTree 2 = .ok (.putfield 144, 3) := by decide +kernel
theorem dX6_tellTree_5 : decode cX6_tellTree 5 = .ok (.iconst 0, 1) := by decide +kernel
theorem dX6_tellTree_6 : decode cX6_tellTree 6 = .ok (.istore_n 1, 1) := by decide +kernel
theorem dX6_tellTree_7 : decode cX6_tellTree 7 = .ok (.iload_n 1, 1) := by decide +kernel
theorem dX6_tellTree_8 : decode cX6_tellTree 8 = .ok (.aload_n 0, 1) := by decide +kernel
theorem dX6_tellTree_9 : decode cX6_tellTree 9 = .ok (.getfield 128, 3) := by decide +kernel
theorem dX6_tellTree_12 : decode cX6_tellTree 12 = .ok (.if_icmp .ge 56, 3) := by decide +kernel
theorem dX6_tellTree_15 : decode cX6_tellTree 15 = .ok (.iconst 0, 1) := by decide +kernel
theorem dX6_tellTree_16 : decode cX6_tellTree 16 = .ok (.istore_n 2, 1) := by decide +kernel
theorem dX6_tellTree_17 : decode cX6_tellTree 17 = .ok (.iload_n 2, 1) := by decide +kernel
theorem dX6_tellTree_18 : decode cX6_tellTree 18 = .ok (.aload_n 0, 1) := by decide +kernel
theorem dX6_tellTree_19 : decode cX6_tellTree 19 = .ok (.getfield 63, 3) := by decide +kernel
theorem dX6_tellTree_22 : decode cX6_tellTree 22 = .ok (.if_icmp .ge 40, 3) := by decide +kernel
theorem dX6_tellTree_25 : decode cX6_tellTree 25 = .ok (.aload_n 0, 1) := by decide +kernel
theorem dX6_tellTree_26 : decode cX6_tellTree 26 = .ok (.dup, 1) := by decide +kernel
theorem dX6_tellTree_27 : decode cX6_tellTree 27 = .ok (.getfield 144, 3) := by decide +kernel
theorem dX6_tellTree_30 : decode cX6_tellTree 30 = .ok (.aload_n 0, 1) := by decide +kernel
theorem dX6_tellTree_31 : decode cX6_tellTree 31 = .ok (.aload_n 0, 1) := by decide +kernel
theorem dX6_tellTree_32 : decode cX6_tellTree 32 = .ok (.getfield 45, 3) := by decide +kernel
theorem dX6_tellTree_35 : decode cX6_tellTree 35 = .ok (.iconst 5, 1) := by decide +kernel
theorem dX6_tellTree_36 : decode cX6_tellTree 36 = .ok (.iload_n 1, 1) := by decide +kernel
theorem dX6_tellTree_37 : decode cX6_tellTree 37 = .ok (.imul, 1) := by decide +kernel
theorem dX6_tellTree_38 : decode cX6_tellTree 38 = .ok (.iload_n 2, 1) := by decide +kernel
theorem dX6_tellTree_39 : decode cX6_tellTree 39 = .ok (.invokevirtual 116, 3) := by decide +kernel
theorem dX6_tellTree_42 : decode cX6_tellTree 42 = .ok (.ifCond .eq 9, 3) := by decide +kernel
theorem dX6_tellTree_45 : decode cX6_tellTree 45 = .ok (.iconst 1, 1) := by decide +kernel
theorem dX6_tellTree_46 : decode cX6_tellTree 46 = .ok (.iload_n 2, 1) := by decide +kernel
theorem dX6_tellTree_47 : decode cX6_tellTree 47 = .ok (.ishl, 1) := by decide +kernel
theorem dX6_tellTree_48 : decode cX6_tellTree 48 = .ok (.goto 4, 3) := by decide +kernel
theorem dX6_tellTree_51 : decode cX6_tellTree 51 = .ok (.iconst 0, 1) := by decide +kernel
theorem dX6_tellTree_52 : decode cX6_tellTree 52 = .ok (.ior, 1) := by decide +kernel
theorem dX6_tellTree_53 : decode cX6_tellTree 53 = .ok (.putfield 144, 3) := by decide +kernel
theorem dX6_tellTree_56 : decode cX6_tellTree 56 = .ok (.iinc 2 1, 3) := by decide +kernel
theorem dX6_tellTree_59 : decode cX6_tellTree 59 = .ok (.goto (-42), 3) := by decide +kernel
theorem dX6_tellTree_62 : decode cX6_tellTree 62 = .ok (.iinc 1 1, 3) := by decide +kernel
theorem dX6_tellTree_65 : decode cX6_tellTree 65 = .ok (.goto (-58), 3) := by decide +kernel
theorem dX6_tellTree_68 : decode cX6_tellTree 68 = .ok (.aload_n 0, 1) := by decide +kernel
theorem dX6_tellTree_69 : decode cX6_tellTree 69 = .ok (.iconst 0, 1) := by decide +kernel
theorem dX6_tellTree_70 : decode cX6_tellTree 70 = .ok (.putfield 147, 3) := by decide +kernel
theorem dX6_tellTree_73 : decode cX6_tellTree 73 = .ok (.iconst 0, 1) := by decide +kernel
theorem dX6_tellTree_74 : decode cX6_tellTree 74 = .ok (.istore_n 1, 1) := by decide +kernel
theorem dX6_tellTree_75 : decode cX6_tellTree 75 = .ok (.iload_n 1, 1) := by decide +kernel
theorem dX6_tellTree_76 : decode cX6_tellTree 76 = .ok (.aload_n 0, 1) := by decide +kernel
theorem dX6_tellTree_77 : decode cX6_tellTree 77 = .ok (.getfield 128, 3) := by decide +kernel
theorem dX6_tellTree_80 : decode cX6_tellTree 80 = .ok (.if_icmp .ge 169, 3) := by decide +kernel
theorem dX6_tellTree_83 : decode cX6_tellTree 83 = .ok (.iconst 1, 1) := by decide +kernel
theorem dX6_tellTree_84 : decode cX6_tellTree 84 = .ok (.istore_n 2, 1) := by decide +kernel
theorem dX6_tellTree_85 : decode cX6_tellTree 85 = .ok (.iconst 0, 1) := by decide +kernel
theorem dX6_tellTree_86 : decode cX6_tellTree 86 = .ok (.istore_n 3, 1) := by decide +kernel
theorem dX6_tellTree_87 : decode cX6_tellTree 87 = .ok (.iload_n 3, 1) := by decide +kernel
theorem dX6_tellTree_88 : decode cX6_tellTree 88 = .ok (.aload_n 0, 1) := by decide +kernel
theorem dX6_tellTree_89 : decode cX6_tellTree 89 = .ok (.getfield 128, 3) := by decide +kernel
theorem dX6_tellTree_92 : decode cX6_tellTree 92 = .ok (.if_icmp .ge 85, 3) := by decide +kernel
theorem dX6_tellTree_95 : decode cX6_tellTree 95 = .ok (.aload_n 0, 1) := by decide +kernel
theorem dX6_tellTree_96 : decode cX6_tellTree 96 = .ok (.getfield 45, 3) := by decide +kernel
theorem dX6_tellTree_99 : decode cX6_tellTree 99 = .ok (.iconst 5, 1) := by decide +kernel
theorem dX6_tellTree_100 : decode cX6_tellTree 100 = .ok (.iload_n 3, 1) := by decide +kernel
theorem dX6_tellTree_101 : decode cX6_tellTree 101 = .ok (.imul, 1) := by decide +kernel
theorem dX6_tellTree_102 : decode cX6_tellTree 102 = .ok (.aload_n 0, 1) := by decide +kernel
theorem dX6_tellTree_103 : decode cX6_tellTree 103 = .ok (.getfield 45, 3) := by decide +kernel
theorem dX6_tellTree_106 : decode cX6_tellTree 106 = .ok (.iconst 5, 1) := by decide +kernel
theorem dX6_tellTree_107 : decode cX6_tellTree 107 = .ok (.iload_n 1, 1) := by decide +kernel
theorem dX6_tellTree_108 : decode cX6_tellTree 108 = .ok (.imul, 1) := by decide +kernel
theorem dX6_tellTree_109 : decode cX6_tellTree 109 = .ok (.invokestatic 83, 3) := by decide +kernel
theorem dX6_tellTree_112 : decode cX6_tellTree 112 = .ok (.istore 4, 2) := by decide +kernel
theorem dX6_tellTree_114 : decode cX6_tellTree 114 = .ok (.iload 4, 2) := by decide +kernel
theorem dX6_tellTree_116 : decode cX6_tellTree 116 = .ok (.ifCond .eq 27, 3) := by decide +kernel
theorem dX6_tellTree_119 : decode cX6_tellTree 119 = .ok (.aload_n 0, 1) := by decide +kernel
theorem dX6_tellTree_120 : decode cX6_tellTree 120 = .ok (.getfield 45, 3) := by decide +kernel
theorem dX6_tellTree_123 : decode cX6_tellTree 123 = .ok (.iconst 5, 1) := by decide +kernel
theorem dX6_tellTree_124 : decode cX6_tellTree 124 = .ok (.iload_n 1, 1) := by decide +kernel
theorem dX6_tellTree_125 : decode cX6_tellTree 125 = .ok (.imul, 1) := by decide +kernel
theorem dX6_tellTree_126 : decode cX6_tellTree 126 = .ok (.aload_n 0, 1) := by decide +kernel
theorem dX6_tellTree_127 : decode cX6_tellTree 127 = .ok (.getfield 45, 3) := by decide +kernel
theorem dX6_tellTree_130 : decode cX6_tellTree 130 = .ok (.iconst 5, 1) := by decide +kernel
theorem dX6_tellTree_131 : decode cX6_tellTree 131 = .ok (.iload_n 3, 1) := by decide +kernel
theorem dX6_tellTree_132 : decode cX6_tellTree 132 = .ok (.imul, 1) := by decide +kernel
theorem dX6_tellTree_133 : decode cX6_tellTree 133 = .ok (.invokestatic 83, 3) := by decide +kernel
theorem dX6_tellTree_136 : decode cX6_tellTree 136 = .ok (.ifCond .eq 7, 3) := by decide +kernel
theorem dX6_tellTree_139 : decode cX6_tellTree 139 = .ok (.iconst 1, 1) := by decide +kernel
theorem dX6_tellTree_140 : decode cX6_tellTree 140 = .ok (.goto 4, 3) := by decide +kernel
theorem dX6_tellTree_143 : decode cX6_tellTree 143 = .ok (.iconst 0, 1) := by decide +kernel
theorem dX6_tellTree_144 : decode cX6_tellTree 144 = .ok (.istore 5, 2) := by decide +kernel
theorem dX6_tellTree_146 : decode cX6_tellTree 146 = .ok (.iload_n 2, 1) := by decide +kernel
theorem dX6_tellTree_147 : decode cX6_tellTree 147 = .ok (.ifCond .eq 22, 3) := by decide +kernel
theorem dX6_tellTree_150 : decode cX6_tellTree 150 = .ok (.iload 4, 2) := by decide +kernel
theorem dX6_tellTree_152 : decode cX6_tellTree 152 = .ok (.ifCond .eq 13, 3) := by decide +kernel
theorem dX6_tellTree_155 : decode cX6_tellTree 155 = .ok (.iload 5, 2) := by decide +kernel
theorem dX6_tellTree_157 : decode cX6_tellTree 157 = .ok (.ifCond .eq 12, 3) := by decide +kernel
theorem dX6_tellTree_160 : decode cX6_tellTree 160 = .ok (.iload_n 3, 1) := by decide +kernel
theorem dX6_tellTree_161 : decode cX6_tellTree 161 = .ok (.iload_n 1, 1) := by decide +kernel
theorem dX6_tellTree_162 : decode cX6_tellTree 162 = .ok (.if_icmp .lt 7, 3) := by decide +kernel
theorem dX6_tellTree_165 : decode cX6_tellTree 165 = .ok (.iconst 1, 1) := by decide +kernel
theorem dX6_tellTree_166 : decode cX6_tellTree 166 = .ok (.goto 4, 3) := by decide +kernel
theorem dX6_tellTree_169 : decode cX6_tellTree 169 = .ok (.iconst 0, 1) := by decide +kernel
theorem dX6_tellTree_170 : decode cX6_tellTree 170 = .ok (.istore_n 2, 1) := by decide +kernel
theorem dX6_tellTree_171 : decode cX6_tellTree 171 = .ok (.iinc 3 1, 3) := by decide +kernel
theorem dX6_tellTree_174 : decode cX6_tellTree 174 = .ok (.goto (-87), 3) := by decide +kernel
theorem dX6_tellTree_177 : decode cX6_tellTree 177 = .ok (.iload_n 2, 1) := by decide +kernel
theorem dX6_tellTree_178 : decode cX6_tellTree 178 = .ok (.ifCond .eq 65, 3) := by decide +kernel
theorem dX6_tellTree_181 : decode cX6_tellTree 181 = .ok (.aload_n 0, 1) := by decide +kernel
theorem dX6_tellTree_182 : decode cX6_tellTree 182 = .ok (.getfield 147, 3) := by decide +kernel
theorem dX6_tellTree_185 : decode cX6_tellTree 185 = .ok (.istore_n 3, 1) := by decide +kernel
theorem dX6_tellTree_186 : decode cX6_tellTree 186 = .ok (.iload_n 3, 1) := by decide +kernel
theorem dX6_tellTree_187 : decode cX6_tellTree 187 = .ok (.ifCond .le 39, 3) := by decide +kernel
theorem dX6_tellTree_190 : decode cX6_tellTree 190 = .ok (.aload_n 0, 1) := by decide +kernel
theorem dX6_tellTree_191 : decode cX6_tellTree 191 = .ok (.iload_n 1, 1) := by decide +kernel
theorem dX6_tellTree_192 : decode cX6_tellTree 192 = .ok (.aload_n 0, 1) := by decide +kernel
theorem dX6_tellTree_193 : decode cX6_tellTree 193 = .ok (.getfield 51, 3) := by decide +kernel
theorem dX6_tellTree_196 : decode cX6_tellTree 196 = .ok (.iload_n 3, 1) := by decide +kernel
theorem dX6_tellTree_197 : decode cX6_tellTree 197 = .ok (.iconst 1, 1) := by decide +kernel
theorem dX6_tellTree_198 : decode cX6_tellTree 198 = .ok (.isub, 1) := by decide +kernel
theorem dX6_tellTree_199 : decode cX6_tellTree 199 = .ok (.iaload, 1) := by decide +kernel
theorem dX6_tellTree_200 : decode cX6_tellTree 200 = .ok (.invokevirtual 150, 3) := by decide +kernel
theorem dX6_tellTree_203 : decode cX6_tellTree 203 = .ok (.ifCond .eq 23, 3) := by decide +kernel
theorem dX6_tellTree_206 : decode cX6_tellTree 206 = .ok (.aload_n 0, 1) := by decide +kernel
theorem dX6_tellTree_207 : decode cX6_tellTree 207 = .ok (.getfield 51, 3) := by decide +kernel
theorem dX6_tellTree_210 : decode cX6_tellTree 210 = .ok (.iload_n 3, 1) := by decide +kernel
theorem dX6_tellTree_211 : decode cX6_tellTree 211 = .ok (.aload_n 0, 1) := by decide +kernel
theorem dX6_tellTree_212 : decode cX6_tellTree 212 = .ok (.getfield 51, 3) := by decide +kernel
theorem dX6_tellTree_215 : decode cX6_tellTree 215 = .ok (.iload_n 3, 1) := by decide +kernel
theorem dX6_tellTree_216 : decode cX6_tellTree 216 = .ok (.iconst 1, 1) := by decide +kernel
theorem dX6_tellTree_217 : decode cX6_tellTree 217 = .ok (.isub, 1) := by decide +kernel
theorem dX6_tellTree_218 : decode cX6_tellTree 218 = .ok (.iaload, 1) := by decide +kernel
theorem dX6_tellTree_219 : decode cX6_tellTree 219 = .ok (.iastore, 1) := by decide +kernel
theorem dX6_tellTree_220 : decode cX6_tellTree 220 = .ok (.iinc 3 (-1), 3) := by decide +kernel
theorem dX6_tellTree_223 : decode cX6_tellTree 223 = .ok (.goto (-37), 3) := by decide +kernel
theorem dX6_tellTree_226 : decode cX6_tellTree 226 = .ok (.aload_n 0, 1) := by decide +kernel
theorem dX6_tellTree_227 : decode cX6_tellTree 227 = .ok (.getfield 51, 3) := by decide +kernel
theorem dX6_tellTree_230 : decode cX6_tellTree 230 = .ok (.iload_n 3, 1) := by decide +kernel
theorem dX6_tellTree_231 : decode cX6_tellTree 231 = .ok (.iload_n 1, 1) := by decide +kernel
theorem dX6_tellTree_232 : decode cX6_tellTree 232 = .ok (.iastore, 1) := by decide +kernel
theorem dX6_tellTree_233 : decode cX6_tellTree 233 = .ok (.aload_n 0, 1) := by decide +kernel
theorem dX6_tellTree_234 : decode cX6_tellTree 234 = .ok (.dup, 1) := by decide +kernel
theorem dX6_tellTree_235 : decode cX6_tellTree 235 = .ok (.getfield 147, 3) := by decide +kernel
theorem dX6_tellTree_238 : decode cX6_tellTree 238 = .ok (.iconst 1, 1) := by decide +kernel
theorem dX6_tellTree_239 : decode cX6_tellTree 239 = .ok (.iadd, 1) := by decide +kernel
theorem dX6_tellTree_240 : decode cX6_tellTree 240 = .ok (.putfield 147, 3) := by decide +kernel
theorem dX6_tellTree_243 : decode cX6_tellTree 243 = .ok (.iinc 1 1, 3) := by decide +kernel
theorem dX6_tellTree_246 : decode cX6_tellTree 246 = .ok (.goto (-171), 3) := by decide +kernel
theorem dX6_tellTree_249 : decode cX6_tellTree 249 = .ok (.return_, 1) := by decide +kernel
theorem dX6_isBefore_0 : decode cX6_isBefore 0 = .ok (.iconst 0, 1) := by decide +kernel
theorem dX6_isBefore_1 : decode cX6_isBefore 1 = .ok (.istore_n 3, 1) := by decide +kernel
theorem dX6_isBefore_2 : decode cX6_isBefore 2 = .ok (.iload_n 3, 1) := by decide +kernel
theorem dX6_isBefore_3 : decode cX6_isBefore 3 = .ok (.iconst 5, 1) := by decide +kernel
theorem dX6_isBefore_4 : decode cX6_isBefore 4 = .ok (.if_icmp .ge 48, 3) := by decide +kernel
theorem dX6_isBefore_7 : decode cX6_isBefore 7 = .ok (.aload_n 0, 1) := by decide +kernel
theorem dX6_isBefore_8 : decode cX6_isBefore 8 = .ok (.getfield 45, 3) := by decide +kernel
theorem dX6_isBefore_11 : decode cX6_isBefore 11 = .ok (.iconst 5, 1) := by decide +kernel
theorem dX6_isBefore_12 : decode cX6_isBefore 12 = .ok (.iload_n 1, 1) := by decide +kernel
theorem dX6_isBefore_13 : decode cX6_isBefore 13 = .ok (.imul, 1) := by decide +kernel
theorem dX6_isBefore_14 : decode cX6_isBefore 14 = .ok (.iload_n 3, 1) := by decide +kernel
theorem dX6_isBefore_15 : decode cX6_isBefore 15 = .ok (.iadd, 1) := by decide +kernel
theorem dX6_isBefore_16 : decode cX6_isBefore 16 = .ok (.iaload, 1) := by decide +kernel
theorem dX6_isBefore_17 : decode cX6_isBefore 17 = .ok (.aload_n 0, 1) := by decide +kernel
theorem dX6_isBefore_18 : decode cX6_isBefore 18 = .ok (.getfield 45, 3) := by decide +kernel
theorem dX6_isBefore_21 : decode cX6_isBefore 21 = .ok (.iconst 5, 1) := by decide +kernel
theorem dX6_isBefore_22 : decode cX6_isBefore 22 = .ok (.iload_n 2, 1) := by decide +kernel
theorem dX6_isBefore_23 : decode cX6_isBefore 23 = .ok (.imul, 1) := by decide +kernel
theorem dX6_isBefore_24 : decode cX6_isBefore 24 = .ok (.iload_n 3, 1) := by decide +kernel
theorem dX6_isBefore_25 : decode cX6_isBefore 25 = .ok (.iadd, 1) := by decide +kernel
theorem dX6_isBefore_26 : decode cX6_isBefore 26 = .ok (.iaload, 1) := by decide +kernel
theorem dX6_isBefore_27 : decode cX6_isBefore 27 = .ok (.isub, 1) := by decide +kernel
theorem dX6_isBefore_28 : decode cX6_isBefore 28 = .ok (.istore 4, 2) := by decide +kernel
theorem dX6_isBefore_30 : decode cX6_isBefore 30 = .ok (.iload 4, 2) := by decide +kernel
theorem dX6_isBefore_32 : decode cX6_isBefore 32 = .ok (.ifCond .eq 14, 3) := by decide +kernel
