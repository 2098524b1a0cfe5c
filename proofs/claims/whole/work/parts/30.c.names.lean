theorem dX4_passOver_24 : decode cX4_passOver 24 = .ok (.aload_n 0, 1) := by decide +kernel
theorem dX4_passOver_25 : decode cX4_passOver 25 = .ok (.aload_n 0, 1) := by decide +kernel
theorem dX4_passOver_26 : decode cX4_passOver 26 = .ok (.invokevirtual 138, 3) := by decide +kernel
theorem dX4_passOver_29 : decode cX4_passOver 29 = .ok (.putfield 132, 3) := by decide +kernel
theorem dX4_passOver_32 : decode cX4_passOver 32 = .ok (.aload_n 0, 1) := by decide +kernel
theorem dX4_passOver_33 : decode cX4_passOver 33 = .ok (.getfield 103, 3) := by decide +kernel
theorem dX4_passOver_36 : decode cX4_passOver 36 = .ok (.iconst 2, 1) := by decide +kernel
theorem dX4_passOver_37 : decode cX4_passOver 37 = .ok (.if_icmp .ne 19, 3) := by decide +kernel
theorem dX4_passOver_40 : decode cX4_passOver 40 = .ok (.aload_n 0, 1) := by decide +kernel
theorem dX4_passOver_41 : decode cX4_passOver 41 = .ok (.getfield 132, 3) := by decide +kernel
theorem dX4_passOver_44 : decode cX4_passOver 44 = .ok (.aload_n 0, 1) := by decide +kernel
theorem dX4_passOver_45 : decode cX4_passOver 45 = .ok (.getfield 78, 3) := by decide +kernel
theorem dX4_passOver_48 : decode cX4_passOver 48 = .ok (.if_icmp .le 8, 3) := by decide +kernel
theorem dX4_passOver_51 : decode cX4_passOver 51 = .ok (.aload_n 0, 1) := by decide +kernel
theorem dX4_passOver_52 : decode cX4_passOver 52 = .ok (.iconst 3, 1) := by decide +kernel
theorem dX4_passOver_53 : decode cX4_passOver 53 = .ok (.putfield 103, 3) := by decide +kernel
theorem dX4_passOver_56 : decode cX4_passOver 56 = .ok (.aload_n 0, 1) := by decide +kernel
theorem dX4_passOver_57 : decode cX4_passOver 57 = .ok (.getfield 103, 3) := by decide +kernel
theorem dX4_passOver_60 : decode cX4_passOver 60 = .ok (.iconst 3, 1) := by decide +kernel
theorem dX4_passOver_61 : decode cX4_passOver 61 = .ok (.if_icmp .ne 15, 3) := by decide +kernel
theorem dX4_passOver_64 : decode cX4_passOver 64 = .ok (.aload_n 0, 1) := by decide +kernel
theorem dX4_passOver_65 : decode cX4_passOver 65 = .ok (.invokevirtual 141, 3) := by decide +kernel
theorem dX4_passOver_68 : decode cX4_passOver 68 = .ok (.ifCond .ne 8, 3) := by decide +kernel
theorem dX4_passOver_71 : decode cX4_passOver 71 = .ok (.aload_n 0, 1) := by decide +kernel
theorem dX4_passOver_72 : decode cX4_passOver 72 = .ok (.iconst 4, 1) := by decide +kernel
theorem dX4_passOver_73 : decode cX4_passOver 73 = .ok (.putfield 103, 3) := by decide +kernel
theorem dX4_passOver_76 : decode cX4_passOver 76 = .ok (.aload_n 0, 1) := by decide +kernel
theorem dX4_passOver_77 : decode cX4_passOver 77 = .ok (.getfield 103, 3) := by decide +kernel
theorem dX4_passOver_80 : decode cX4_passOver 80 = .ok (.iconst 4, 1) := by decide +kernel
theorem dX4_passOver_81 : decode cX4_passOver 81 = .ok (.if_icmp .ne 15, 3) := by decide +kernel
theorem dX4_passOver_84 : decode cX4_passOver 84 = .ok (.aload_n 0, 1) := by decide +kernel
theorem dX4_passOver_85 : decode cX4_passOver 85 = .ok (.invokevirtual 141, 3) := by decide +kernel
theorem dX4_passOver_88 : decode cX4_passOver 88 = .ok (.ifCond .ne 8, 3) := by decide +kernel
theorem dX4_passOver_91 : decode cX4_passOver 91 = .ok (.aload_n 0, 1) := by decide +kernel
theorem dX4_passOver_92 : decode cX4_passOver 92 = .ok (.iconst 0, 1) := by decide +kernel
theorem dX4_passOver_93 : decode cX4_passOver 93 = .ok (.putfield 103, 3) := by decide +kernel
theorem dX4_passOver_96 : decode cX4_passOver 96 = .ok (.return_, 1) := by decide +kernel
set_option maxRecDepth 20000 in
theorem ggX4_lookThrough_X4_makeDirty : GoodIn wsX4_lookThrough wsX4_makeDirty := goodIn_r _ [19, 10, 20, 21, 22, 23, 24, 25, 26, 27, 28, 29, 30, 31, 32, 33, 34, 35, 36, 37, 38, 39, 40, 41, 42, 43, 44, 45, 46, 47] (by decide +kernel) (by decide +kernel)
set_option maxRecDepth 20000 in
theorem gX4_lookThrough_X4_makeDirty : GoodIn wsX4_lookThrough (wsV RX4 92 RX4 yX4_makeDirty wsX4_makeDirty) := goodIn_app (goodIn_of _ (by decide +kernel)) ggX4_lookThrough_X4_makeDirty
theorem dX4_lookThrough_0 : decode cX4_lookThrough 0 = .ok (.aload_n 0, 1) := by decide +kernel
theorem dX4_lookThrough_1 : decode cX4_lookThrough 1 = .ok (.getfield 67, 3) := by decide +kernel
theorem dX4_lookThrough_4 : decode cX4_lookThrough 4 = .ok (.iconst 0, 1) := by decide +kernel
theorem dX4_lookThrough_5 : decode cX4_lookThrough 5 = .ok (.dup2, 1) := by decide +kernel
theorem dX4_lookThrough_6 : decode cX4_lookThrough 6 = .ok (.iaload, 1) := by decide +kernel
theorem dX4_lookThrough_7 : decode cX4_lookThrough 7 = .ok (.iconst 1, 1) := by decide +kernel
theorem dX4_lookThrough_8 : decode cX4_lookThrough 8 = .ok (.iadd, 1) := by decide +kernel
theorem dX4_lookThrough_9 : decode cX4_lookThrough 9 = .ok (.iastore, 1) := by decide +kernel
theorem dX4_lookThrough_10 : decode cX4_lookThrough 10 = .ok (.iload_n 1, 1) := by decide +kernel
theorem dX4_lookThrough_11 : decode cX4_lookThrough 11 = .ok (.aload_n 0, 1) := by decide +kernel
theorem dX4_lookThrough_12 : decode cX4_lookThrough 12 = .ok (.getfield 129, 3) := by decide +kernel
theorem dX4_lookThrough_15 : decode cX4_lookThrough 15 = .ok (.if_icmp .ne 153, 3) := by decide +kernel
theorem dX4_lookThrough_18 : decode cX4_lookThrough 18 = .ok (.aload_n 0, 1) := by decide +kernel
theorem dX4_lookThrough_19 : decode cX4_lookThrough 19 = .ok (.getfield 28, 3) := by decide +kernel
theorem dX4_lookThrough_22 : decode cX4_lookThrough 22 = .ok (.iload_n 1, 1) := by decide +kernel
theorem dX4_lookThrough_23 : decode cX4_lookThrough 23 = .ok (.iaload, 1) := by decide +kernel
theorem dX4_lookThrough_24 : decode cX4_lookThrough 24 = .ok (.istore_n 2, 1) := by decide +kernel
theorem dX4_lookThrough_25 : decode cX4_lookThrough 25 = .ok (.iconst 1, 1) := by decide +kernel
theorem dX4_lookThrough_26 : decode cX4_lookThrough 26 = .ok (.istore_n 3, 1) := by decide +kernel
theorem dX4_lookThrough_27 : decode cX4_lookThrough 27 = .ok (.iload_n 3, 1) := by decide +kernel
theorem dX4_lookThrough_28 : decode cX4_lookThrough 28 = .ok (.sipush 200, 3) := by decide +kernel
theorem dX4_lookThrough_31 : decode cX4_lookThrough 31 = .ok (.if_icmp .gt 87, 3) := by decide +kernel
theorem dX4_lookThrough_34 : decode cX4_lookThrough 34 = .ok (.aload_n 0, 1) := by decide +kernel
theorem dX4_lookThrough_35 : decode cX4_lookThrough 35 = .ok (.getfield 58, 3) := by decide +kernel
theorem dX4_lookThrough_38 : decode cX4_lookThrough 38 = .ok (.iload_n 3, 1) := by decide +kernel
theorem dX4_lookThrough_39 : decode cX4_lookThrough 39 = .ok (.iaload, 1) := by decide +kernel
theorem dX4_lookThrough_40 : decode cX4_lookThrough 40 = .ok (.ifCond .ne 72, 3) := by decide +kernel
theorem dX4_lookThrough_43 : decode cX4_lookThrough 43 = .ok (.aload_n 0, 1) := by decide +kernel
theorem dX4_lookThrough_44 : decode cX4_lookThrough 44 = .ok (.getfield 31, 3) := by decide +kernel
theorem dX4_lookThrough_47 : decode cX4_lookThrough 47 = .ok (.sipush 201, 3) := by decide +kernel
theorem dX4_lookThrough_50 : decode cX4_lookThrough 50 = .ok (.iload_n 2, 1) := by decide +kernel
theorem dX4_lookThrough_51 : decode cX4_lookThrough 51 = .ok (.imul, 1) := by decide +kernel
theorem dX4_lookThrough_52 : decode cX4_lookThrough 52 = .ok (.iload_n 3, 1) := by decide +kernel
theorem dX4_lookThrough_53 : decode cX4_lookThrough 53 = .ok (.iadd, 1) := by decide +kernel
theorem dX4_lookThrough_54 : decode cX4_lookThrough 54 = .ok (.iaload, 1) := by decide +kernel
theorem dX4_lookThrough_55 : decode cX4_lookThrough 55 = .ok (.ifCond .le 57, 3) := by decide +kernel
theorem dX4_lookThrough_58 : decode cX4_lookThrough 58 = .ok (.aload_n 0, 1) := by decide +kernel
theorem dX4_lookThrough_59 : decode cX4_lookThrough 59 = .ok (.getfield 58, 3) := by decide +kernel
theorem dX4_lookThrough_62 : decode cX4_lookThrough 62 = .ok (.iload_n 3, 1) := by decide +kernel
theorem dX4_lookThrough_63 : decode cX4_lookThrough 63 = .ok (.aload_n 0, 1) := by decide +kernel
theorem dX4_lookThrough_64 : decode cX4_lookThrough 64 = .ok (.getfield 31, 3) := by decide +kernel
theorem dX4_lookThrough_67 : decode cX4_lookThrough 67 = .ok (.sipush 201, 3) := by decide +kernel
theorem dX4_lookThrough_70 : decode cX4_lookThrough 70 = .ok (.iload_n 2, 1) := by decide +kernel
theorem dX4_lookThrough_71 : decode cX4_lookThrough 71 = .ok (.imul, 1) := by decide +kernel
theorem dX4_lookThrough_72 : decode cX4_lookThrough 72 = .ok (.iload_n 3, 1) := by decide +kernel
theorem dX4_lookThrough_73 : decode cX4_lookThrough 73 = .ok (.iadd, 1) := by decide +kernel
theorem dX4_lookThrough_74 : decode cX4_lookThrough 74 = .ok (.iaload, 1) := by decide +kernel
theorem dX4_lookThrough_75 : decode cX4_lookThrough 75 = .ok (.iastore, 1) := by decide +kernel
theorem dX4_lookThrough_76 : decode cX4_lookThrough 76 = .ok (.aload_n 0, 1) := by decide +kernel
theorem dX4_lookThrough_77 : decode cX4_lookThrough 77 = .ok (.getfield 61, 3) := by decide +kernel
theorem dX4_lookThrough_80 : decode cX4_lookThrough 80 = .ok (.iload_n 3, 1) := by decide +kernel
theorem dX4_lookThrough_81 : decode cX4_lookThrough 81 = .ok (.aload_n 0, 1) := by decide +kernel
theorem dX4_lookThrough_82 : decode cX4_lookThrough 82 = .ok (.getfield 34, 3) := by decide +kernel
theorem dX4_lookThrough_85 : decode cX4_lookThrough 85 = .ok (.sipush 201, 3) := by decide +kernel
theorem dX4_lookThrough_88 : decode cX4_lookThrough 88 = .ok (.iload_n 2, 1) := by decide +kernel
theorem dX4_lookThrough_89 : decode cX4_lookThrough 89 = .ok (.imul, 1) := by decide +kernel
theorem dX4_lookThrough_90 : decode cX4_lookThrough 90 = .ok (.iload_n 3, 1) := by decide +kernel
theorem dX4_lookThrough_91 : decode cX4_lookThrough 91 = .ok (.iadd, 1) := by decide +kernel
theorem dX4_lookThrough_92 : decode cX4_lookThrough 92 = .ok (.iaload, 1) := by decide +kernel
theorem dX4_lookThrough_93 : decode cX4_lookThrough 93 = .ok (.iastore, 1) := by decide +kernel
theorem dX4_lookThrough_94 : decode cX4_lookThrough 94 = .ok (.aload_n 0, 1) := by decide +kernel
theorem dX4_lookThrough_95 : decode cX4_lookThrough 95 = .ok (.getfield 64, 3) := by decide +kernel
theorem dX4_lookThrough_98 : decode cX4_lookThrough 98 = .ok (.iload_n 3, 1) := by decide +kernel
theorem dX4_lookThrough_99 : decode cX4_lookThrough 99 = .ok (.aload_n 0, 1) := by decide +kernel
theorem dX4_lookThrough_100 : decode cX4_lookThrough 100 = .ok (.getfield 37, 3) := by decide +kernel
theorem dX4_lookThrough_103 : decode cX4_lookThrough 103 = .ok (.sipush 201, 3) := by decide +kernel
theorem dX4_lookThrough_106 : decode cX4_lookThrough 106 = .ok (.iload_n 2, 1) := by decide +kernel
theorem dX4_lookThrough_107 : decode cX4_lookThrough 107 = .ok (.imul, 1) := by decide +kernel
theorem dX4_lookThrough_108 : decode cX4_lookThrough 108 = .ok (.iload_n 3, 1) := by decide +kernel
theorem dX4_lookThrough_109 : decode cX4_lookThrough 109 = .ok (.iadd, 1) := by decide +kernel
theorem dX4_lookThrough_110 : decode cX4_lookThrough 110 = .ok (.iaload, 1) := by decide +kernel
theorem dX4_lookThrough_111 : decode cX4_lookThrough 111 = .ok (.iastore, 1) := by decide +kernel
theorem dX4_lookThrough_112 : decode cX4_lookThrough 112 = .ok (.iinc 3 1, 3) := by decide +kernel
theorem dX4_lookThrough_115 : decode cX4_lookThrough 115 = .ok (.goto (-88), 3) := by decide +kernel
theorem dX4_lookThrough_118 : decode cX4_lookThrough 118 = .ok (.iconst 0, 1) := by decide +kernel
theorem dX4_lookThrough_119 : decode cX4_lookThrough 119 = .ok (.istore_n 3, 1) := by decide +kernel
theorem dX4_lookThrough_120 : decode cX4_lookThrough 120 = .ok (.iload_n 3, 1) := by decide +kernel
theorem dX4_lookThrough_121 : decode cX4_lookThrough 121 = .ok (.bipush 64, 2) := by decide +kernel
theorem dX4_lookThrough_123 : decode cX4_lookThrough 123 = .ok (.if_icmp .ge 45, 3) := by decide +kernel
theorem dX4_lookThrough_126 : decode cX4_lookThrough 126 = .ok (.aload_n 0, 1) := by decide +kernel
theorem dX4_lookThrough_127 : decode cX4_lookThrough 127 = .ok (.getfield 49, 3) := by decide +kernel
theorem dX4_lookThrough_130 : decode cX4_lookThrough 130 = .ok (.iload_n 3, 1) := by decide +kernel
theorem dX4_lookThrough_131 : decode cX4_lookThrough 131 = .ok (.aload_n 0, 1) := by decide +kernel
theorem dX4_lookThrough_132 : decode cX4_lookThrough 132 = .ok (.getfield 49, 3) := by decide +kernel
theorem dX4_lookThrough_135 : decode cX4_lookThrough 135 = .ok (.iload_n 3, 1) := by decide +kernel
theorem dX4_lookThrough_136 : decode cX4_lookThrough 136 = .ok (.iaload, 1) := by decide +kernel
theorem dX4_lookThrough_137 : decode cX4_lookThrough 137 = .ok (.iconst (-1), 1) := by decide +kernel
theorem dX4_lookThrough_138 : decode cX4_lookThrough 138 = .ok (.if_icmp .ne 17, 3) := by decide +kernel
theorem dX4_lookThrough_141 : decode cX4_lookThrough 141 = .ok (.aload_n 0, 1) := by decide +kernel
theorem dX4_lookThrough_142 : decode cX4_lookThrough 142 = .ok (.getfield 40, 3) := by decide +kernel
theorem dX4_lookThrough_145 : decode cX4_lookThrough 145 = .ok (.bipush 64, 2) := by decide +kernel
theorem dX4_lookThrough_147 : decode cX4_lookThrough 147 = .ok (.iload_n 2, 1) := by decide +kernel
theorem dX4_lookThrough_148 : decode cX4_lookThrough 148 = .ok (.imul, 1) := by decide +kernel
theorem dX4_lookThrough_149 : decode cX4_lookThrough 149 = .ok (.iload_n 3, 1) := by decide +kernel
theorem dX4_lookThrough_150 : decode cX4_lookThrough 150 = .ok (.iadd, 1) := by decide +kernel
theorem dX4_lookThrough_151 : decode cX4_lookThrough 151 = .ok (.iaload, 1) := by decide +kernel
theorem dX4_lookThrough_152 : decode cX4_lookThrough 152 = .ok (.goto 9, 3) := by decide +kernel
theorem dX4_lookThrough_155 : decode cX4_lookThrough 155 = .ok (.aload_n 0, 1) := by decide +kernel
theorem dX4_lookThrough_156 : decode cX4_lookThrough 156 = .ok (.getfield 49, 3) := by decide +kernel
theorem dX4_lookThrough_159 : decode cX4_lookThrough 159 = .ok (.iload_n 3, 1) := by decide +kernel
theorem dX4_lookThrough_160 : decode cX4_lookThrough 160 = .ok (.iaload, 1) := by decide +kernel
theorem dX4_lookThrough_161 : decode cX4_lookThrough 161 = .ok (.iastore, 1) := by decide +kernel
theorem dX4_lookThrough_162 : decode cX4_lookThrough 162 = .ok (.iinc 3 1, 3) := by decide +kernel
theorem dX4_lookThrough_165 : decode cX4_lookThrough 165 = .ok (.goto (-45), 3) := by decide +kernel
theorem dX4_lookThrough_168 : decode cX4_lookThrough 168 = .ok (.aload_n 0, 1) := by decide +kernel
theorem dX4_lookThrough_169 : decode cX4_lookThrough 169 = .ok (.getfield 13, 3) := by decide +kernel
theorem dX4_lookThrough_172 : decode cX4_lookThrough 172 = .ok (.iload_n 1, 1) := by decide +kernel
theorem dX4_lookThrough_173 : decode cX4_lookThrough 173 = .ok (.iaload, 1) := by decide +kernel
theorem dX4_lookThrough_174 : decode cX4_lookThrough 174 = .ok (.istore_n 2, 1) := by decide +kernel
theorem dX4_lookThrough_175 : decode cX4_lookThrough 175 = .ok (.iload_n 2, 1) := by decide +kernel
theorem dX4_lookThrough_176 : decode cX4_lookThrough 176 = .ok (.ifCond .ne 4, 3) := by decide +kernel
theorem dX4_lookThrough_179 : decode cX4_lookThrough 179 = .ok (.return_, 1) := by decide +kernel
theorem dX4_lookThrough_180 : decode cX4_lookThrough 180 = .ok (.aload_n 0, 1) := by decide +kernel
theorem dX4_lookThrough_181 : decode cX4_lookThrough 181 = .ok (.getfield 58, 3) := by decide +kernel
theorem dX4_lookThrough_184 : decode cX4_lookThrough 184 = .ok (.iload_n 2, 1) := by decide +kernel
theorem dX4_lookThrough_185 : decode cX4_lookThrough 185 = .ok (.iaload, 1) := by decide +kernel
theorem dX4_lookThrough_186 : decode cX4_lookThrough 186 = .ok (.ifCond .ne 17, 3) := by decide +kernel
theorem dX4_lookThrough_189 : decode cX4_lookThrough 189 = .ok (.aload_n 0, 1) := by decide +kernel
theorem dX4_lookThrough_190 : decode cX4_lookThrough 190 = .ok (.getfield 58, 3) := by decide +kernel
theorem dX4_lookThrough_193 : decode cX4_lookThrough 193 = .ok (.iload_n 2, 1) := by decide +kernel
theorem dX4_lookThrough_194 : decode cX4_lookThrough 194 = .ok (.iconst 1, 1) := by decide +kernel
theorem dX4_lookThrough_195 : decode cX4_lookThrough 195 = .ok (.iastore, 1) := by decide +kernel
theorem dX4_lookThrough_196 : decode cX4_lookThrough 196 = .ok (.aload_n 0, 1) := by decide +kernel
theorem dX4_lookThrough_197 : decode cX4_lookThrough 197 = .ok (.getfield 64, 3) := by decide +kernel
theorem dX4_lookThrough_200 : decode cX4_lookThrough 200 = .ok (.iload_n 2, 1) := by decide +kernel
theorem dX4_lookThrough_201 : decode cX4_lookThrough 201 = .ok (.iconst 0, 1) := by decide +kernel
theorem dX4_lookThrough_202 : decode cX4_lookThrough 202 = .ok (.iastore, 1) := by decide +kernel
theorem dX4_lookThrough_203 : decode cX4_lookThrough 203 = .ok (.aload_n 0, 1) := by decide +kernel
theorem dX4_lookThrough_204 : decode cX4_lookThrough 204 = .ok (.getfield 61, 3) := by decide +kernel
theorem dX4_lookThrough_207 : decode cX4_lookThrough 207 = .ok (.iload_n 2, 1) := by decide +kernel
theorem dX4_lookThrough_208 : decode cX4_lookThrough 208 = .ok (.iload_n 1, 1) := by decide +kernel
theorem dX4_lookThrough_209 : decode cX4_lookThrough 209 = .ok (.iastore, 1) := by decide +kernel
theorem dX4_lookThrough_210 : decode cX4_lookThrough 210 = .ok (.aload_n 0, 1) := by decide +kernel
theorem dX4_lookThrough_211 : decode cX4_lookThrough 211 = .ok (.getfield 7, 3) := by decide +kernel
theorem dX4_lookThrough_214 : decode cX4_lookThrough 214 = .ok (.iload_n 1, 1) := by decide +kernel
theorem dX4_lookThrough_215 : decode cX4_lookThrough 215 = .ok (.iaload, 1) := by decide +kernel
theorem dX4_lookThrough_216 : decode cX4_lookThrough 216 = .ok (.tableswitch 117 1 6 #[40, 61, 87, 97, 117, 107], 40) := by decide +kernel
theorem dX4_lookThrough_256 : decode cX4_lookThrough 256 = .ok (.aload_n 0, 1) := by decide +kernel
theorem dX4_lookThrough_257 : decode cX4_lookThrough 257 = .ok (.getfield 64, 3) := by decide +kernel
theorem dX4_lookThrough_260 : decode cX4_lookThrough 260 = .ok (.iload_n 2, 1) := by decide +kernel
theorem dX4_lookThrough_261 : decode cX4_lookThrough 261 = .ok (.iload_n 1, 1) := by decide +kernel
theorem dX4_lookThrough_262 : decode cX4_lookThrough 262 = .ok (.iastore, 1) := by decide +kernel
theorem dX4_lookThrough_263 : decode cX4_lookThrough 263 = .ok (.aload_n 0, 1) := by decide +kernel
theorem dX4_lookThrough_264 : decode cX4_lookThrough 264 = .ok (.aload_n 0, 1) := by decide +kernel
theorem dX4_lookThrough_265 : decode cX4_lookThrough 265 = .ok (.getfield 19, 3) := by decide +kernel
theorem dX4_lookThrough_268 : decode cX4_lookThrough 268 = .ok (.iload_n 1, 1) := by decide +kernel
theorem dX4_lookThrough_269 : decode cX4_lookThrough 269 = .ok (.iaload, 1) := by decide +kernel
theorem dX4_lookThrough_270 : decode cX4_lookThrough 270 = .ok (.iload_n 1, 1) := by decide +kernel
theorem dX4_lookThrough_271 : decode cX4_lookThrough 271 = .ok (.invokevirtual 92, 3) := by decide +kernel
theorem dX4_lookThrough_274 : decode cX4_lookThrough 274 = .ok (.goto 66, 3) := by decide +kernel
theorem dX4_lookThrough_277 : decode cX4_lookThrough 277 = .ok (.aload_n 0, 1) := by decide +kernel
theorem dX4_lookThrough_278 : decode cX4_lookThrough 278 = .ok (.getfield 64, 3) := by decide +kernel
theorem dX4_lookThrough_281 : decode cX4_lookThrough 281 = .ok (.iload_n 2, 1) := by decide +kernel
theorem dX4_lookThrough_282 : decode cX4_lookThrough 282 = .ok (.aload_n 0, 1) := by decide +kernel
theorem dX4_lookThrough_283 : decode cX4_lookThrough 283 = .ok (.getfield 28, 3) := by decide +kernel
theorem dX4_lookThrough_286 : decode cX4_lookThrough 286 = .ok (.iload_n 1, 1) := by decide +kernel
theorem dX4_lookThrough_287 : decode cX4_lookThrough 287 = .ok (.iaload, 1) := by decide +kernel
theorem dX4_lookThrough_288 : decode cX4_lookThrough 288 = .ok (.iastore, 1) := by decide +kernel
theorem dX4_lookThrough_289 : decode cX4_lookThrough 289 = .ok (.aload_n 0, 1) := by decide +kernel
theorem dX4_lookThrough_290 : decode cX4_lookThrough 290 = .ok (.aload_n 0, 1) := by decide +kernel
theorem dX4_lookThrough_291 : decode cX4_lookThrough 291 = .ok (.getfield 19, 3) := by decide +kernel
theorem dX4_lookThrough_294 : decode cX4_lookThrough 294 = .ok (.iload_n 1, 1) := by decide +kernel
theorem dX4_lookThrough_295 : decode cX4_lookThrough 295 = .ok (.iaload, 1) := by decide +kernel
theorem dX4_lookThrough_296 : decode cX4_lookThrough 296 = .ok (.iload_n 1, 1) := by decide +kernel
theorem dX4_lookThrough_297 : decode cX4_lookThrough 297 = .ok (.invokevirtual 92, 3) := by decide +kernel
theorem dX4_lookThrough_300 : decode cX4_lookThrough 300 = .ok (.goto 40, 3) := by decide +kernel
theorem dX4_lookThrough_303 : decode cX4_lookThrough 303 = .ok (.aload_n 0, 1) := by decide +kernel
theorem dX4_lookThrough_304 : decode cX4_lookThrough 304 = .ok (.getfield 58, 3) := by decide +kernel
theorem dX4_lookThrough_307 : decode cX4_lookThrough 307 = .ok (.iload_n 2, 1) := by decide +kernel
theorem dX4_lookThrough_308 : decode cX4_lookThrough 308 = .ok (.iconst 4, 1) := by decide +kernel
theorem dX4_lookThrough_309 : decode cX4_lookThrough 309 = .ok (.iastore, 1) := by decide +kernel
theorem dX4_lookThrough_310 : decode cX4_lookThrough 310 = .ok (.goto 30, 3) := by decide +kernel
theorem dX4_lookThrough_313 : decode cX4_lookThrough 313 = .ok (.aload_n 0, 1) := by decide +kernel
theorem dX4_lookThrough_314 : decode cX4_lookThrough 314 = .ok (.getfield 58, 3) := by decide +kernel
theorem dX4_lookThrough_317 : decode cX4_lookThrough 317 = .ok (.iload_n 2, 1) := by decide +kernel
theorem dX4_lookThrough_318 : decode cX4_lookThrough 318 = .ok (.iconst 2, 1) := by decide +kernel
theorem dX4_lookThrough_319 : decode cX4_lookThrough 319 = .ok (.iastore, 1) := by decide +kernel
theorem dX4_lookThrough_320 : decode cX4_lookThrough 320 = .ok (.goto 20, 3) := by decide +kernel
theorem dX4_lookThrough_323 : decode cX4_lookThrough 323 = .ok (.aload_n 0, 1) := by decide +kernel
theorem dX4_lookThrough_324 : decode cX4_lookThrough 324 = .ok (.getfield 58, 3) := by decide +kernel
theorem dX4_lookThrough_327 : decode cX4_lookThrough 327 = .ok (.iload_n 2, 1) := by decide +kernel
theorem dX4_lookThrough_328 : decode cX4_lookThrough 328 = .ok (.iconst 3, 1) := by decide +kernel
theorem dX4_lookThrough_329 : decode cX4_lookThrough 329 = .ok (.iastore, 1) := by decide +kernel
theorem dX4_lookThrough_330 : decode cX4_lookThrough 330 = .ok (.goto 10, 3) := by decide +kernel
theorem dX4_lookThrough_333 : decode cX4_lookThrough 333 = .ok (.aload_n 0, 1) := by decide +kernel
theorem dX4_lookThrough_334 : decode cX4_lookThrough 334 = .ok (.getfield 58, 3) := by decide +kernel
theorem dX4_lookThrough_337 : decode cX4_lookThrough 337 = .ok (.iload_n 2, 1) := by decide +kernel
theorem dX4_lookThrough_338 : decode cX4_lookThrough 338 = .ok (.iconst 0, 1) := by decide +kernel
theorem dX4_lookThrough_339 : decode cX4_lookThrough 339 = .ok (.iastore, 1) := by decide +kernel
theorem dX4_lookThrough_340 : decode cX4_lookThrough 340 = .ok (.return_, 1) := by decide +kernel
set_option maxRecDepth 20000 in
theorem ggX4_doAgain_X4_apply : GoodIn wsX4_doAgain wsX4_apply := goodIn_r _ [10, 2, 11, 12, 13, 4, 14, 15, 16, 17, 18, 19, 20, 21, 22, 23, 24, 25, 26, 27, 28, 29, 30, 31, 32, 33, 34, 35, 36, 37, 38, 39, 40, 41] (by decide +kernel) (by decide +kernel)
set_option maxRecDepth 20000 in
theorem gX4_doAgain_X4_apply : GoodIn wsX4_doAgain (wsV RX4 96 RX4 yX4_apply wsX4_apply) := goodIn_app (goodIn_of _ (by decide +kernel)) ggX4_doAgain_X4_apply
theorem dX4_doAgain_0 : decode cX4_doAgain 0 = .ok (.aload_n 0, 1) := by decide +kernel
theorem dX4_doAgain_1 : decode cX4_doAgain 1 = .ok (.getfield 7, 3) := by decide +kernel
theorem dX4_doAgain_4 : decode cX4_doAgain 4 = .ok (.iload_n 1, 1) := by decide +kernel
theorem dX4_doAgain_5 : decode cX4_doAgain 5 = .ok (.iaload, 1) := by decide +kernel
theorem dX4_doAgain_6 : decode cX4_doAgain 6 = .ok (.iconst 1, 1) := by decide +kernel
theorem dX4_doAgain_7 : decode cX4_doAgain 7 = .ok (.if_icmp .eq 14, 3) := by decide +kernel
theorem dX4_doAgain_10 : decode cX4_doAgain 10 = .ok (.aload_n 0, 1) := by decide +kernel
theorem dX4_doAgain_11 : decode cX4_doAgain 11 = .ok (.getfield 7, 3) := by decide +kernel
theorem dX4_doAgain_14 : decode cX4_doAgain 14 = .ok (.iload_n 1, 1) := by decide +kernel
theorem dX4_doAgain_15 : decode cX4_doAgain 15 = .ok (.iaload, 1) := by decide +kernel
theorem dX4_doAgain_16 : decode cX4_doAgain 16 = .ok (.iconst 2, 1) := by decide +kernel
theorem dX4_doAgain_17 : decode cX4_doAgain 17 = .ok (.if_icmp .eq 4, 3) := by decide +kernel
theorem dX4_doAgain_20 : decode cX4_doAgain 20 = .ok (.return_, 1) := by decide +kernel
theorem dX4_doAgain_21 : decode cX4_doAgain 21 = .ok (.aload_n 0, 1) := by decide +kernel
theorem dX4_doAgain_22 : decode cX4_doAgain 22 = .ok (.getfield 19, 3) := by decide +kernel
theorem dX4_doAgain_25 : decode cX4_doAgain 25 = .ok (.iload_n 1, 1) := by decide +kernel
theorem dX4_doAgain_26 : decode cX4_doAgain 26 = .ok (.iaload, 1) := by decide +kernel
theorem dX4_doAgain_27 : decode cX4_doAgain 27 = .ok (.istore_n 2, 1) := by decide +kernel
theorem dX4_doAgain_28 : decode cX4_doAgain 28 = .ok (.aload_n 0, 1) := by decide +kernel
theorem dX4_doAgain_29 : decode cX4_doAgain 29 = .ok (.getfield 49, 3) := by decide +kernel
theorem dX4_doAgain_32 : decode cX4_doAgain 32 = .ok (.iload_n 2, 1) := by decide +kernel
theorem dX4_doAgain_33 : decode cX4_doAgain 33 = .ok (.iaload, 1) := by decide +kernel
theorem dX4_doAgain_34 : decode cX4_doAgain 34 = .ok (.iconst (-1), 1) := by decide +kernel
theorem dX4_doAgain_35 : decode cX4_doAgain 35 = .ok (.if_icmp .eq 27, 3) := by decide +kernel
theorem dX4_doAgain_38 : decode cX4_doAgain 38 = .ok (.aload_n 0, 1) := by decide +kernel
theorem dX4_doAgain_39 : decode cX4_doAgain 39 = .ok (.getfield 49, 3) := by decide +kernel
theorem dX4_doAgain_42 : decode cX4_doAgain 42 = .ok (.iload_n 2, 1) := by decide +kernel
theorem dX4_doAgain_43 : decode cX4_doAgain 43 = .ok (.iaload, 1) := by decide +kernel
theorem dX4_doAgain_44 : decode cX4_doAgain 44 = .ok (.iload_n 1, 1) := by decide +kernel
theorem dX4_doAgain_45 : decode cX4_doAgain 45 = .ok (.if_icmp .gt 17, 3) := by decide +kernel
theorem dX4_doAgain_48 : decode cX4_doAgain 48 = .ok (.aload_n 0, 1) := by decide +kernel
theorem dX4_doAgain_49 : decode cX4_doAgain 49 = .ok (.getfield 46, 3) := by decide +kernel
theorem dX4_doAgain_52 : decode cX4_doAgain 52 = .ok (.iload_n 2, 1) := by decide +kernel
theorem dX4_doAgain_53 : decode cX4_doAgain 53 = .ok (.iaload, 1) := by decide +kernel
theorem dX4_doAgain_54 : decode cX4_doAgain 54 = .ok (.iload_n 1, 1) := by decide +kernel
theorem dX4_doAgain_55 : decode cX4_doAgain 55 = .ok (.if_icmp .ge 7, 3) := by decide +kernel
theorem dX4_doAgain_58 : decode cX4_doAgain 58 = .ok (.iconst 1, 1) := by decide +kernel
theorem dX4_doAgain_59 : decode cX4_doAgain 59 = .ok (.goto 4, 3) := by decide +kernel
theorem dX4_doAgain_62 : decode cX4_doAgain 62 = .ok (.iconst 0, 1) := by decide +kernel
theorem dX4_doAgain_63 : decode cX4_doAgain 63 = .ok (.istore_n 3, 1) := by decide +kernel
theorem dX4_doAgain_64 : decode cX4_doAgain 64 = .ok (.iload_n 3, 1) := by decide +kernel
theorem dX4_doAgain_65 : decode cX4_doAgain 65 = .ok (.ifCond .eq 8, 3) := by decide +kernel
theorem dX4_doAgain_68 : decode cX4_doAgain 68 = .ok (.aload_n 0, 1) := by decide +kernel
theorem dX4_doAgain_69 : decode cX4_doAgain 69 = .ok (.iload_n 1, 1) := by decide +kernel
theorem dX4_doAgain_70 : decode cX4_doAgain 70 = .ok (.invokevirtual 96, 3) := by decide +kernel
theorem dX4_doAgain_73 : decode cX4_doAgain 73 = .ok (.aload_n 0, 1) := by decide +kernel
theorem dX4_doAgain_74 : decode cX4_doAgain 74 = .ok (.getfield 67, 3) := by decide +kernel
theorem dX4_doAgain_77 : decode cX4_doAgain 77 = .ok (.iload_n 3, 1) := by decide +kernel
theorem dX4_doAgain_78 : decode cX4_doAgain 78 = .ok (.ifCond .eq 7, 3) := by decide +kernel
theorem dX4_doAgain_81 : decode cX4_doAgain 81 = .ok (.iconst 1, 1) := by decide +kernel
theorem dX4_doAgain_82 : decode cX4_doAgain 82 = .ok (.goto 4, 3) := by decide +kernel
theorem dX4_doAgain_85 : decode cX4_doAgain 85 = .ok (.iconst 2, 1) := by decide +kernel
theorem dX4_doAgain_86 : decode cX4_doAgain 86 = .ok (.dup2, 1) := by decide +kernel
theorem dX4_doAgain_87 : decode cX4_doAgain 87 = .ok (.iaload, 1) := by decide +kernel
theorem dX4_doAgain_88 : decode cX4_doAgain 88 = .ok (.iconst 1, 1) := by decide +kernel
theorem dX4_doAgain_89 : decode cX4_doAgain 89 = .ok (.iadd, 1) := by decide +kernel
theorem dX4_doAgain_90 : decode cX4_doAgain 90 = .ok (.iastore, 1) := by decide +kernel
theorem dX4_doAgain_91 : decode cX4_doAgain 91 = .ok (.return_, 1) := by decide +kernel
set_option maxRecDepth 20000 in
theorem ggX4_step_X4_lookThrough : GoodIn wsX4_step wsX4_lookThrough := goodIn_r _ [9, 4, 10, 11, 12, 13, 14, 15, 3, 16, 17, 18, 19, 20, 21, 22, 23, 24, 8, 25, 69, 70, 71, 72, 73, 74, 75, 76, 77, 78, 79, 80, 81, 82, 83, 84, 85, 86, 87, 88, 89, 90, 91, 92, 93, 94, 95, 96] (by decide +kernel) (by decide +kernel)
set_option maxRecDepth 20000 in
theorem gX4_step_X4_lookThrough : GoodIn wsX4_step (wsV RX4 144 RX4 yX4_lookThrough wsX4_lookThrough) := goodIn_app (goodIn_of _ (by decide +kernel)) ggX4_step_X4_lookThrough
set_option maxRecDepth 20000 in
theorem ggX4_step_X4_doAgain : GoodIn wsX4_step wsX4_doAgain := goodIn_r _ [29, 20, 21, 17, 30, 4, 31, 32, 33, 8, 34, 35, 36, 37, 69, 70, 71, 72, 73, 74, 75, 76, 77, 78, 79, 80, 81, 82, 83, 84, 85, 86, 87, 88, 89, 90, 91, 92, 93, 94, 95, 96] (by decide +kernel) (by decide +kernel)
set_option maxRecDepth 20000 in
theorem gX4_step_X4_doAgain : GoodIn wsX4_step (wsV RX4 147 RX4 yX4_doAgain wsX4_doAgain) := goodIn_app (goodIn_of _ (by decide +kernel)) ggX4_step_X4_doAgain
set_option maxRecDepth 20000 in
theorem ggX4_step_X4_chosen : GoodIn wsX4_step wsX4_chosen := goodIn_r _ [41, 42, 1, 12, 3, 69, 70, 71, 72, 73, 74, 75, 76, 77, 78, 79, 80, 81, 82, 83, 84, 85, 86, 87, 88, 89, 90, 91, 92, 93, 94, 95, 96] (by decide +kernel) (by decide +kernel)
set_option maxRecDepth 20000 in
theorem gX4_step_X4_chosen : GoodIn wsX4_step (wsV RX4 141 RX4 yX4_chosen wsX4_chosen) := goodIn_app (goodIn_of _ (by decide +kernel)) ggX4_step_X4_chosen
set_option maxRecDepth 20000 in
theorem ggX4_step_X4_giveBack : GoodIn wsX4_step wsX4_giveBack := goodIn_r _ [46, 3, 21, 36, 37, 11, 47, 48, 49, 50, 8, 51, 52, 20, 19, 14, 53, 54, 55, 56, 22, 23, 24, 25, 17, 31, 32, 33, 34, 35, 30, 69, 70, 71, 72, 73, 74, 75, 76, 77, 78, 79, 80, 81, 82, 83, 84, 85, 86, 87, 88, 89, 90, 91, 92, 93, 94, 95, 96] (by decide +kernel) (by decide +kernel)
set_option maxRecDepth 20000 in
theorem gX4_step_X4_giveBack : GoodIn wsX4_step (wsV RX4 100 RX4 yX4_giveBack wsX4_giveBack) := goodIn_app (goodIn_of _ (by decide +kernel)) ggX4_step_X4_giveBack
set_option maxRecDepth 20000 in
theorem ggX4_step_X4_end : GoodIn wsX4_step wsX4_end := goodIn_r _ [60, 12, 48, 49, 50, 8, 51, 52, 20, 19, 47, 14, 21, 36, 37, 11, 69, 70, 71, 72, 73, 74, 75, 76, 77, 78, 79, 80, 81, 82, 83, 84, 85, 86, 87, 88, 89, 90, 91, 92, 93, 94, 95, 96] (by decide +kernel) (by decide +kernel)
set_option maxRecDepth 20000 in
theorem gX4_step_X4_end : GoodIn wsX4_step (wsV RX4 123 RX4 yX4_end wsX4_end) := goodIn_app (goodIn_of _ (by decide +kernel)) ggX4_step_X4_end
set_option maxRecDepth 20000 in
theorem ggX4_step_X4_passOver : GoodIn wsX4_step wsX4_passOver := goodIn_r _ [64, 1, 2, 52, 65, 66, 67, 8, 68, 17, 38, 39, 40, 41, 42, 12, 3, 69, 70, 71, 72, 73, 74, 75, 76, 77, 78, 79, 80, 81, 82, 83, 84, 85, 86, 87, 88, 89, 90, 91, 92, 93, 94, 95, 96] (by decide +kernel) (by decide +kernel)
set_option maxRecDepth 20000 in
theorem gX4_step_X4_passOver : GoodIn wsX4_step (wsV RX4 135 RX4 yX4_passOver wsX4_passOver) := goodIn_app (goodIn_of _ (by decide +kernel)) ggX4_step_X4_passOver
theorem dX4_step_0 : decode cX4_step 0 = .ok (.aload_n 0, 1) := by decide +kernel
theorem dX4_step_1 : decode cX4_step 1 = .ok (.getfield 103, 3) := by decide +kernel
theorem dX4_step_4 : decode cX4_step 4 = .ok (.iconst 1, 1) := by decide +kernel
theorem dX4_step_5 : decode cX4_step 5 = .ok (.if_icmp .ne 24, 3) := by decide +kernel
theorem dX4_step_8 : decode cX4_step 8 = .ok (.aload_n 0, 1) := by decide +kernel
theorem dX4_step_9 : decode cX4_step 9 = .ok (.aload_n 0, 1) := by decide +kernel
theorem dX4_step_10 : decode cX4_step 10 = .ok (.getfield 132, 3) := by decide +kernel
theorem dX4_step_13 : decode cX4_step 13 = .ok (.invokevirtual 144, 3) := by decide +kernel
theorem dX4_step_16 : decode cX4_step 16 = .ok (.aload_n 0, 1) := by decide +kernel
theorem dX4_step_17 : decode cX4_step 17 = .ok (.dup, 1) := by decide +kernel
theorem dX4_step_18 : decode cX4_step 18 = .ok (.getfield 132, 3) := by decide +kernel
theorem dX4_step_21 : decode cX4_step 21 = .ok (.iconst 1, 1) := by decide +kernel
theorem dX4_step_22 : decode cX4_step 22 = .ok (.iadd, 1) := by decide +kernel
theorem dX4_step_23 : decode cX4_step 23 = .ok (.putfield 132, 3) := by decide +kernel
theorem dX4_step_26 : decode cX4_step 26 = .ok (.goto 77, 3) := by decide +kernel
theorem dX4_step_29 : decode cX4_step 29 = .ok (.aload_n 0, 1) := by decide +kernel
theorem dX4_step_30 : decode cX4_step 30 = .ok (.getfield 103, 3) := by decide +kernel
theorem dX4_step_33 : decode cX4_step 33 = .ok (.iconst 2, 1) := by decide +kernel
theorem dX4_step_34 : decode cX4_step 34 = .ok (.if_icmp .ne 24, 3) := by decide +kernel
theorem dX4_step_37 : decode cX4_step 37 = .ok (.aload_n 0, 1) := by decide +kernel
theorem dX4_step_38 : decode cX4_step 38 = .ok (.aload_n 0, 1) := by decide +kernel
theorem dX4_step_39 : decode cX4_step 39 = .ok (.getfield 132, 3) := by decide +kernel
theorem dX4_step_42 : decode cX4_step 42 = .ok (.invokevirtual 147, 3) := by decide +kernel
theorem dX4_step_45 : decode cX4_step 45 = .ok (.aload_n 0, 1) := by decide +kernel
theorem dX4_step_46 : decode cX4_step 46 = .ok (.dup, 1) := by decide +kernel
theorem dX4_step_47 : decode cX4_step 47 = .ok (.getfield 132, 3) := by decide +kernel
theorem dX4_step_50 : decode cX4_step 50 = .ok (.iconst 1, 1) := by decide +kernel
theorem dX4_step_51 : decode cX4_step 51 = .ok (.iadd, 1) := by decide +kernel
theorem dX4_step_52 : decode cX4_step 52 = .ok (.putfield 132, 3) := by decide +kernel
theorem dX4_step_55 : decode cX4_step 55 = .ok (.goto 48, 3) := by decide +kernel
theorem dX4_step_58 : decode cX4_step 58 = .ok (.aload_n 0, 1) := by decide +kernel
theorem dX4_step_59 : decode cX4_step 59 = .ok (.invokevirtual 141, 3) := by decide +kernel
theorem dX4_step_62 : decode cX4_step 62 = .ok (.istore_n 1, 1) := by decide +kernel
theorem dX4_step_63 : decode cX4_step 63 = .ok (.aload_n 0, 1) := by decide +kernel
theorem dX4_step_64 : decode cX4_step 64 = .ok (.getfield 103, 3) := by decide +kernel
theorem dX4_step_67 : decode cX4_step 67 = .ok (.iconst 4, 1) := by decide +kernel
theorem dX4_step_68 : decode cX4_step 68 = .ok (.if_icmp .ne 30, 3) := by decide +kernel
theorem dX4_step_71 : decode cX4_step 71 = .ok (.aload_n 0, 1) := by decide +kernel
theorem dX4_step_72 : decode cX4_step 72 = .ok (.getfield 64, 3) := by decide +kernel
theorem dX4_step_75 : decode cX4_step 75 = .ok (.iload_n 1, 1) := by decide +kernel
theorem dX4_step_76 : decode cX4_step 76 = .ok (.iaload, 1) := by decide +kernel
theorem dX4_step_77 : decode cX4_step 77 = .ok (.ifCond .le 21, 3) := by decide +kernel
theorem dX4_step_80 : decode cX4_step 80 = .ok (.aload_n 0, 1) := by decide +kernel
theorem dX4_step_81 : decode cX4_step 81 = .ok (.iload_n 1, 1) := by decide +kernel
theorem dX4_step_82 : decode cX4_step 82 = .ok (.invokevirtual 100, 3) := by decide +kernel
theorem dX4_step_85 : decode cX4_step 85 = .ok (.aload_n 0, 1) := by decide +kernel
theorem dX4_step_86 : decode cX4_step 86 = .ok (.getfield 67, 3) := by decide +kernel
theorem dX4_step_89 : decode cX4_step 89 = .ok (.iconst 3, 1) := by decide +kernel
theorem dX4_step_90 : decode cX4_step 90 = .ok (.dup2, 1) := by decide +kernel
theorem dX4_step_91 : decode cX4_step 91 = .ok (.iaload, 1) := by decide +kernel
theorem dX4_step_92 : decode cX4_step 92 = .ok (.iconst 1, 1) := by decide +kernel
theorem dX4_step_93 : decode cX4_step 93 = .ok (.iadd, 1) := by decide +kernel
theorem dX4_step_94 : decode cX4_step 94 = .ok (.iastore, 1) := by decide +kernel
theorem dX4_step_95 : decode cX4_step 95 = .ok (.goto 8, 3) := by decide +kernel
theorem dX4_step_98 : decode cX4_step 98 = .ok (.aload_n 0, 1) := by decide +kernel
theorem dX4_step_99 : decode cX4_step 99 = .ok (.iload_n 1, 1) := by decide +kernel
theorem dX4_step_100 : decode cX4_step 100 = .ok (.invokevirtual 123, 3) := by decide +kernel
theorem dX4_step_103 : decode cX4_step 103 = .ok (.aload_n 0, 1) := by decide +kernel
theorem dX4_step_104 : decode cX4_step 104 = .ok (.invokevirtual 135, 3) := by decide +kernel
theorem dX4_step_107 : decode cX4_step 107 = .ok (.return_, 1) := by decide +kernel
set_option maxRecDepth 20000 in
theorem ggX4_restart_X4_step : GoodIn wsX4_restart wsX4_step := goodIn_r _ [6, 1, 7, 8, 9, 10, 11, 12, 5, 13, 14, 15, 16, 17, 18, 19, 20, 21, 22, 23, 24, 25, 26, 27, 28, 29, 30, 31, 32, 33, 34, 35, 36, 37, 38, 39, 40, 41, 42, 43, 44, 45, 46, 47, 48, 49, 50, 51, 52, 53, 54, 55, 56, 57, 58, 59, 60, 61, 62, 63, 64, 65, 66, 67, 68, 69, 70, 71, 72, 73, 74, 75, 76, 77, 78, 79, 80, 81, 82, 83, 84, 85, 86, 87, 88, 89, 90, 91, 92, 93, 94, 95, 96, 97, 98, 99, 100] (by decide +kernel) (by decide +kernel)
set_option maxRecDepth 20000 in
theorem gX4_restart_X4_step : GoodIn wsX4_restart (wsV RX4 150 RX4 yX4_step wsX4_step) := goodIn_app (goodIn_of _ (by decide +kernel)) ggX4_restart_X4_step
theorem dX4_restart_0 : decode cX4_restart 0 = .ok (.iload_n 1, 1) := by decide +kernel
theorem dX4_restart_1 : decode cX4_restart 1 = .ok (.ifCond .ge 6, 3) := by decide +kernel
theorem dX4_restart_4 : decode cX4_restart 4 = .ok (.bipush (-102), 2) := by decide +kernel
theorem dX4_restart_6 : decode cX4_restart 6 = .ok (.ireturn, 1) := by decide +kernel
theorem dX4_restart_7 : decode cX4_restart 7 = .ok (.iconst 0, 1) := by decide +kernel
theorem dX4_restart_8 : decode cX4_restart 8 = .ok (.istore_n 2, 1) := by decide +kernel
theorem dX4_restart_9 : decode cX4_restart 9 = .ok (.iload_n 2, 1) := by decide +kernel
theorem dX4_restart_10 : decode cX4_restart 10 = .ok (.iload_n 1, 1) := by decide +kernel
theorem dX4_restart_11 : decode cX4_restart 11 = .ok (.if_icmp .ge 20, 3) := by decide +kernel
theorem dX4_restart_14 : decode cX4_restart 14 = .ok (.aload_n 0, 1) := by decide +kernel
theorem dX4_restart_15 : decode cX4_restart 15 = .ok (.getfield 103, 3) := by decide +kernel
theorem dX4_restart_18 : decode cX4_restart 18 = .ok (.ifCond .le 13, 3) := by decide +kernel
theorem dX4_restart_21 : decode cX4_restart 21 = .ok (.aload_n 0, 1) := by decide +kernel
theorem dX4_restart_22 : decode cX4_restart 22 = .ok (.invokevirtual 150, 3) := by decide +kernel
theorem dX4_restart_25 : decode cX4_restart 25 = .ok (.iinc 2 1, 3) := by decide +kernel
theorem dX4_restart_28 : decode cX4_restart 28 = .ok (.goto (-19), 3) := by decide +kernel
theorem dX4_restart_31 : decode cX4_restart 31 = .ok (.iload_n 2, 1) := by decide +kernel
theorem dX4_restart_32 : decode cX4_restart 32 = .ok (.ireturn, 1) := by decide +kernel
theorem dX4_part_0 : decode cX4_part 0 = .ok (.aload_n 0, 1) := by decide +kernel
theorem dX4_part_1 : decode cX4_part 1 = .ok (.getfield 103, 3) := by decide +kernel
theorem dX4_part_4 : decode cX4_part 4 = .ok (.ireturn, 1) := by decide +kernel
set_option maxRecDepth 20000 in
theorem ggX4_word_X4_in : GoodIn wsX4_word wsX4_in := goodIn_r _ [5] (by decide +kernel) (by decide +kernel)
set_option maxRecDepth 20000 in
theorem gX4_word_X4_in : GoodIn wsX4_word (va_wsS RX4 74 yX4_in wsX4_in) := goodIn_app (goodIn_of _ (by decide +kernel)) ggX4_word_X4_in
theorem dX4_word_0 : decode cX4_word 0 = .ok (.iload_n 1, 1) := by decide +kernel
theorem dX4_word_1 : decode cX4_word 1 = .ok (.iconst 0, 1) := by decide +kernel
theorem dX4_word_2 : decode cX4_word 2 = .ok (.bipush 63, 2) := by decide +kernel
theorem dX4_word_4 : decode cX4_word 4 = .ok (.invokestatic 74, 3) := by decide +kernel
theorem dX4_word_7 : decode cX4_word 7 = .ok (.ifCond .eq 27, 3) := by decide +kernel
theorem dX4_word_10 : decode cX4_word 10 = .ok (.iload_n 2, 1) := by decide +kernel
theorem dX4_word_11 : decode cX4_word 11 = .ok (.iconst 0, 1) := by decide +kernel
theorem dX4_word_12 : decode cX4_word 12 = .ok (.bipush 7, 2) := by decide +kernel
theorem dX4_word_14 : decode cX4_word 14 = .ok (.invokestatic 74, 3) := by decide +kernel
theorem dX4_word_17 : decode cX4_word 17 = .ok (.ifCond .eq 17, 3) := by decide +kernel
theorem dX4_word_20 : decode cX4_word 20 = .ok (.aload_n 0, 1) := by decide +kernel
theorem dX4_word_21 : decode cX4_word 21 = .ok (.getfield 43, 3) := by decide +kernel
theorem dX4_word_24 : decode cX4_word 24 = .ok (.bipush 8, 2) := by decide +kernel
theorem dX4_word_26 : decode cX4_word 26 = .ok (.iload_n 1, 1) := by decide +kernel
theorem dX4_word_27 : decode cX4_word 27 = .ok (.imul, 1) := by decide +kernel
theorem dX4_word_28 : decode cX4_word 28 = .ok (.iload_n 2, 1) := by decide +kernel
theorem dX4_word_29 : decode cX4_word 29 = .ok (.iadd, 1) := by decide +kernel
theorem dX4_word_30 : decode cX4_word 30 = .ok (.iaload, 1) := by decide +kernel
theorem dX4_word_31 : decode cX4_word 31 = .ok (.goto 4, 3) := by decide +kernel
theorem dX4_word_34 : decode cX4_word 34 = .ok (.iconst 0, 1) := by decide +kernel
theorem dX4_word_35 : decode cX4_word 35 = .ok (.ireturn, 1) := by decide +kernel
set_option maxRecDepth 20000 in
theorem ggX4_page_X4_in : GoodIn wsX4_page wsX4_in := goodIn_r _ [7] (by decide +kernel) (by decide +kernel)
set_option maxRecDepth 20000 in
theorem gX4_page_X4_in : GoodIn wsX4_page (va_wsS RX4 74 yX4_in wsX4_in) := goodIn_app (goodIn_of _ (by decide +kernel)) ggX4_page_X4_in
theorem dX4_page_0 : decode cX4_page 0 = .ok (.iload_n 1, 1) := by decide +kernel
theorem dX4_page_1 : decode cX4_page 1 = .ok (.iconst 0, 1) := by decide +kernel
theorem dX4_page_2 : decode cX4_page 2 = .ok (.bipush 63, 2) := by decide +kernel
theorem dX4_page_4 : decode cX4_page 4 = .ok (.invokestatic 74, 3) := by decide +kernel
theorem dX4_page_7 : decode cX4_page 7 = .ok (.ifCond .eq 12, 3) := by decide +kernel
theorem dX4_page_10 : decode cX4_page 10 = .ok (.iload_n 2, 1) := by decide +kernel
theorem dX4_page_11 : decode cX4_page 11 = .ok (.iconst 0, 1) := by decide +kernel
theorem dX4_page_12 : decode cX4_page 12 = .ok (.iconst 2, 1) := by decide +kernel
theorem dX4_page_13 : decode cX4_page 13 = .ok (.invokestatic 74, 3) := by decide +kernel
theorem dX4_page_16 : decode cX4_page 16 = .ok (.ifCond .ne 6, 3) := by decide +kernel
theorem dX4_page_19 : decode cX4_page 19 = .ok (.bipush (-102), 2) := by decide +kernel
theorem dX4_page_21 : decode cX4_page 21 = .ok (.ireturn, 1) := by decide +kernel
theorem dX4_page_22 : decode cX4_page 22 = .ok (.iload_n 2, 1) := by decide +kernel
theorem dX4_page_23 : decode cX4_page 23 = .ok (.ifCond .ne 12, 3) := by decide +kernel
theorem dX4_page_26 : decode cX4_page 26 = .ok (.aload_n 0, 1) := by decide +kernel
theorem dX4_page_27 : decode cX4_page 27 = .ok (.getfield 46, 3) := by decide +kernel
theorem dX4_page_30 : decode cX4_page 30 = .ok (.iload_n 1, 1) := by decide +kernel
theorem dX4_page_31 : decode cX4_page 31 = .ok (.iaload, 1) := by decide +kernel
theorem dX4_page_32 : decode cX4_page 32 = .ok (.goto 23, 3) := by decide +kernel
theorem dX4_page_35 : decode cX4_page 35 = .ok (.iload_n 2, 1) := by decide +kernel
theorem dX4_page_36 : decode cX4_page 36 = .ok (.iconst 1, 1) := by decide +kernel
theorem dX4_page_37 : decode cX4_page 37 = .ok (.if_icmp .ne 12, 3) := by decide +kernel
theorem dX4_page_40 : decode cX4_page 40 = .ok (.aload_n 0, 1) := by decide +kernel
theorem dX4_page_41 : decode cX4_page 41 = .ok (.getfield 49, 3) := by decide +kernel
theorem dX4_page_44 : decode cX4_page 44 = .ok (.iload_n 1, 1) := by decide +kernel
theorem dX4_page_45 : decode cX4_page 45 = .ok (.iaload, 1) := by decide +kernel
theorem dX4_page_46 : decode cX4_page 46 = .ok (.goto 9, 3) := by decide +kernel
theorem dX4_page_49 : decode cX4_page 49 = .ok (.aload_n 0, 1) := by decide +kernel
theorem dX4_page_50 : decode cX4_page 50 = .ok (.getfield 55, 3) := by decide +kernel
theorem dX4_page_53 : decode cX4_page 53 = .ok (.iload_n 1, 1) := by decide +kernel
theorem dX4_page_54 : decode cX4_page 54 = .ok (.iaload, 1) := by decide +kernel
theorem dX4_page_55 : decode cX4_page 55 = .ok (.ireturn, 1) := by decide +kernel
theorem dX4_table_0 : decode cX4_table 0 = .ok (.iload_n 1, 1) := by decide +kernel
theorem dX4_table_1 : decode cX4_table 1 = .ok (.istore_n 3, 1) := by decide +kernel
theorem dX4_table_2 : decode cX4_table 2 = .ok (.iconst 1, 1) := by decide +kernel
theorem dX4_table_3 : decode cX4_table 3 = .ok (.istore 4, 2) := by decide +kernel
theorem dX4_table_5 : decode cX4_table 5 = .ok (.iload 4, 2) := by decide +kernel
theorem dX4_table_7 : decode cX4_table 7 = .ok (.aload_n 0, 1) := by decide +kernel
theorem dX4_table_8 : decode cX4_table 8 = .ok (.getfield 70, 3) := by decide +kernel
theorem dX4_table_11 : decode cX4_table 11 = .ok (.if_icmp .gt 82, 3) := by decide +kernel
theorem dX4_table_14 : decode cX4_table 14 = .ok (.aload_n 0, 1) := by decide +kernel
theorem dX4_table_15 : decode cX4_table 15 = .ok (.getfield 58, 3) := by decide +kernel
theorem dX4_table_18 : decode cX4_table 18 = .ok (.iload 4, 2) := by decide +kernel
theorem dX4_table_20 : decode cX4_table 20 = .ok (.iaload, 1) := by decide +kernel
theorem dX4_table_21 : decode cX4_table 21 = .ok (.ifCond .le 66, 3) := by decide +kernel
theorem dX4_table_24 : decode cX4_table 24 = .ok (.iload_n 3, 1) := by decide +kernel
theorem dX4_table_25 : decode cX4_table 25 = .ok (.ifCond .ne 59, 3) := by decide +kernel
theorem dX4_table_28 : decode cX4_table 28 = .ok (.iload_n 2, 1) := by decide +kernel
theorem dX4_table_29 : decode cX4_table 29 = .ok (.ifCond .ne 8, 3) := by decide +kernel
theorem dX4_table_32 : decode cX4_table 32 = .ok (.iload 4, 2) := by decide +kernel
theorem dX4_table_34 : decode cX4_table 34 = .ok (.goto 49, 3) := by decide +kernel
theorem dX4_table_37 : decode cX4_table 37 = .ok (.iload_n 2, 1) := by decide +kernel
theorem dX4_table_38 : decode cX4_table 38 = .ok (.iconst 1, 1) := by decide +kernel
theorem dX4_table_39 : decode cX4_table 39 = .ok (.if_icmp .ne 13, 3) := by decide +kernel
theorem dX4_table_42 : decode cX4_table 42 = .ok (.aload_n 0, 1) := by decide +kernel
theorem dX4_table_43 : decode cX4_table 43 = .ok (.getfield 58, 3) := by decide +kernel
theorem dX4_table_46 : decode cX4_table 46 = .ok (.iload 4, 2) := by decide +kernel
theorem dX4_table_48 : decode cX4_table 48 = .ok (.iaload, 1) := by decide +kernel
theorem dX4_table_49 : decode cX4_table 49 = .ok (.goto 34, 3) := by decide +kernel
theorem dX4_table_52 : decode cX4_table 52 = .ok (.iload_n 2, 1) := by decide +kernel
theorem dX4_table_53 : decode cX4_table 53 = .ok (.iconst 2, 1) := by decide +kernel
theorem dX4_table_54 : decode cX4_table 54 = .ok (.if_icmp .ne 13, 3) := by decide +kernel
theorem dX4_table_57 : decode cX4_table 57 = .ok (.aload_n 0, 1) := by decide +kernel
theorem dX4_table_58 : decode cX4_table 58 = .ok (.getfield 61, 3) := by decide +kernel
theorem dX4_table_61 : decode cX4_table 61 = .ok (.iload 4, 2) := by decide +kernel
theorem dX4_table_63 : decode cX4_table 63 = .ok (.iaload, 1) := by decide +kernel
theorem dX4_table_64 : decode cX4_table 64 = .ok (.goto 19, 3) := by decide +kernel
theorem dX4_table_67 : decode cX4_table 67 = .ok (.iload_n 2, 1) := by decide +kernel
theorem dX4_table_68 : decode cX4_table 68 = .ok (.iconst 3, 1) := by decide +kernel
theorem dX4_table_69 : decode cX4_table 69 = .ok (.if_icmp .ne 13, 3) := by decide +kernel
theorem dX4_table_72 : decode cX4_table 72 = .ok (.aload_n 0, 1) := by decide +kernel
theorem dX4_table_73 : decode cX4_table 73 = .ok (.getfield 64, 3) := by decide +kernel
theorem dX4_table_76 : decode cX4_table 76 = .ok (.iload 4, 2) := by decide +kernel
theorem dX4_table_78 : decode cX4_table 78 = .ok (.iaload, 1) := by decide +kernel
theorem dX4_table_79 : decode cX4_table 79 = .ok (.goto 4, 3) := by decide +kernel
theorem dX4_table_82 : decode cX4_table 82 = .ok (.iconst (-1), 1) := by decide +kernel
theorem dX4_table_83 : decode cX4_table 83 = .ok (.ireturn, 1) := by decide +kernel
theorem dX4_table_84 : decode cX4_table 84 = .ok (.iinc 3 (-1), 3) := by decide +kernel
theorem dX4_table_87 : decode cX4_table 87 = .ok (.iinc 4 1, 3) := by decide +kernel
theorem dX4_table_90 : decode cX4_table 90 = .ok (.goto (-85), 3) := by decide +kernel
theorem dX4_table_93 : decode cX4_table 93 = .ok (.iconst (-1), 1) := by decide +kernel
theorem dX4_table_94 : decode cX4_table 94 = .ok (.ireturn, 1) := by decide +kernel
set_option maxRecDepth 20000 in
theorem ggX4_record_X4_in : GoodIn wsX4_record wsX4_in := goodIn_r _ [12] (by decide +kernel) (by decide +kernel)
set_option maxRecDepth 20000 in
theorem gX4_record_X4_in : GoodIn wsX4_record (va_wsS RX4 74 yX4_in wsX4_in) := goodIn_app (goodIn_of _ (by decide +kernel)) ggX4_record_X4_in
theorem dX4_record_0 : decode cX4_record 0 = .ok (.iload_n 1, 1) := by decide +kernel
theorem dX4_record_1 : decode cX4_record 1 = .ok (.iconst 1, 1) := by decide +kernel
theorem dX4_record_2 : decode cX4_record 2 = .ok (.aload_n 0, 1) := by decide +kernel
theorem dX4_record_3 : decode cX4_record 3 = .ok (.getfield 78, 3) := by decide +kernel
theorem dX4_record_6 : decode cX4_record 6 = .ok (.invokestatic 74, 3) := by decide +kernel
theorem dX4_record_9 : decode cX4_record 9 = .ok (.ifCond .eq 13, 3) := by decide +kernel
theorem dX4_record_12 : decode cX4_record 12 = .ok (.iload_n 2, 1) := by decide +kernel
theorem dX4_record_13 : decode cX4_record 13 = .ok (.iconst 0, 1) := by decide +kernel
theorem dX4_record_14 : decode cX4_record 14 = .ok (.bipush 6, 2) := by decide +kernel
theorem dX4_record_16 : decode cX4_record 16 = .ok (.invokestatic 74, 3) := by decide +kernel
theorem dX4_record_19 : decode cX4_record 19 = .ok (.ifCond .ne 5, 3) := by decide +kernel
theorem dX4_record_22 : decode cX4_record 22 = .ok (.iconst (-1), 1) := by decide +kernel
theorem dX4_record_23 : decode cX4_record 23 = .ok (.ireturn, 1) := by decide +kernel
theorem dX4_record_24 : decode cX4_record 24 = .ok (.iload_n 2, 1) := by decide +kernel
theorem dX4_record_25 : decode cX4_record 25 = .ok (.tableswitch 81 0 5 #[39, 46, 53, 60, 67, 74], 39) := by decide +kernel
theorem dX4_record_64 : decode cX4_record 64 = .ok (.aload_n 0, 1) := by decide +kernel
theorem dX4_record_65 : decode cX4_record 65 = .ok (.getfield 7, 3) := by decide +kernel
theorem dX4_record_68 : decode cX4_record 68 = .ok (.iload_n 1, 1) := by decide +kernel
theorem dX4_record_69 : decode cX4_record 69 = .ok (.iaload, 1) := by decide +kernel
theorem dX4_record_70 : decode cX4_record 70 = .ok (.ireturn, 1) := by decide +kernel
theorem dX4_record_71 : decode cX4_record 71 = .ok (.aload_n 0, 1) := by decide +kernel
theorem dX4_record_72 : decode cX4_record 72 = .ok (.getfield 13, 3) := by decide +kernel
theorem dX4_record_75 : decode cX4_record 75 = .ok (.iload_n 1, 1) := by decide +kernel
theorem dX4_record_76 : decode cX4_record 76 = .ok (.iaload, 1) := by decide +kernel
theorem dX4_record_77 : decode cX4_record 77 = .ok (.ireturn, 1) := by decide +kernel
theorem dX4_record_78 : decode cX4_record 78 = .ok (.aload_n 0, 1) := by decide +kernel
theorem dX4_record_79 : decode cX4_record 79 = .ok (.getfield 16, 3) := by decide +kernel
theorem dX4_record_82 : decode cX4_record 82 = .ok (.iload_n 1, 1) := by decide +kernel
theorem dX4_record_83 : decode cX4_record 83 = .ok (.iaload, 1) := by decide +kernel
theorem dX4_record_84 : decode cX4_record 84 = .ok (.ireturn, 1) := by decide +kernel
theorem dX4_record_85 : decode cX4_record 85 = .ok (.aload_n 0, 1) := by decide +kernel
theorem dX4_record_86 : decode cX4_record 86 = .ok (.getfield 19, 3) := by decide +kernel
theorem dX4_record_89 : decode cX4_record 89 = .ok (.iload_n 1, 1) := by decide +kernel
theorem dX4_record_90 : decode cX4_record 90 = .ok (.iaload, 1) := by decide +kernel
theorem dX4_record_91 : decode cX4_record 91 = .ok (.ireturn, 1) := by decide +kernel
theorem dX4_record_92 : decode cX4_record 92 = .ok (.aload_n 0, 1) := by decide +kernel
theorem dX4_record_93 : decode cX4_record 93 = .ok (.getfield 22, 3) := by decide +kernel
theorem dX4_record_96 : decode cX4_record 96 = .ok (.iload_n 1, 1) := by decide +kernel
theorem dX4_record_97 : decode cX4_record 97 = .ok (.iaload, 1) := by decide +kernel
theorem dX4_record_98 : decode cX4_record 98 = .ok (.ireturn, 1) := by decide +kernel
theorem dX4_record_99 : decode cX4_record 99 = .ok (.aload_n 0, 1) := by decide +kernel
theorem dX4_record_100 : decode cX4_record 100 = .ok (.getfield 25, 3) := by decide +kernel
theorem dX4_record_103 : decode cX4_record 103 = .ok (.iload_n 1, 1) := by decide +kernel
theorem dX4_record_104 : decode cX4_record 104 = .ok (.iaload, 1) := by decide +kernel
theorem dX4_record_105 : decode cX4_record 105 = .ok (.ireturn, 1) := by decide +kernel
theorem dX4_record_106 : decode cX4_record 106 = .ok (.aload_n 0, 1) := by decide +kernel
theorem dX4_record_107 : decode cX4_record 107 = .ok (.getfield 7, 3) := by decide +kernel
theorem dX4_record_110 : decode cX4_record 110 = .ok (.iload_n 1, 1) := by decide +kernel
theorem dX4_record_111 : decode cX4_record 111 = .ok (.iaload, 1) := by decide +kernel
theorem dX4_record_112 : decode cX4_record 112 = .ok (.iconst 2, 1) := by decide +kernel
theorem dX4_record_113 : decode cX4_record 113 = .ok (.if_icmp .ne 12, 3) := by decide +kernel
theorem dX4_record_116 : decode cX4_record 116 = .ok (.aload_n 0, 1) := by decide +kernel
theorem dX4_record_117 : decode cX4_record 117 = .ok (.getfield 28, 3) := by decide +kernel
theorem dX4_record_120 : decode cX4_record 120 = .ok (.iload_n 1, 1) := by decide +kernel
theorem dX4_record_121 : decode cX4_record 121 = .ok (.iaload, 1) := by decide +kernel
theorem dX4_record_122 : decode cX4_record 122 = .ok (.goto 4, 3) := by decide +kernel
theorem dX4_record_125 : decode cX4_record 125 = .ok (.iconst 0, 1) := by decide +kernel
theorem dX4_record_126 : decode cX4_record 126 = .ok (.ireturn, 1) := by decide +kernel
set_option maxRecDepth 20000 in
theorem ggX4_count_X4_in : GoodIn wsX4_count wsX4_in := goodIn_r _ [7] (by decide +kernel) (by decide +kernel)
set_option maxRecDepth 20000 in
theorem gX4_count_X4_in : GoodIn wsX4_count (va_wsS RX4 74 yX4_in wsX4_in) := goodIn_app (goodIn_of _ (by decide +kernel)) ggX4_count_X4_in
theorem dX4_count_0 : decode cX4_count 0 = .ok (.iload_n 1, 1) := by decide +kernel
theorem dX4_count_1 : decode cX4_count 1 = .ok (.iconst 0, 1) := by decide +kernel
theorem dX4_count_2 : decode cX4_count 2 = .ok (.iconst 5, 1) := by decide +kernel
theorem dX4_count_3 : decode cX4_count 3 = .ok (.invokestatic 74, 3) := by decide +kernel
theorem dX4_count_6 : decode cX4_count 6 = .ok (.ifCond .ne 6, 3) := by decide +kernel
theorem dX4_count_9 : decode cX4_count 9 = .ok (.bipush (-102), 2) := by decide +kernel
theorem dX4_count_11 : decode cX4_count 11 = .ok (.ireturn, 1) := by decide +kernel
theorem dX4_count_12 : decode cX4_count 12 = .ok (.iload_n 1, 1) := by decide +kernel
theorem dX4_count_13 : decode cX4_count 13 = .ok (.ifCond .ne 10, 3) := by decide +kernel
theorem dX4_count_16 : decode cX4_count 16 = .ok (.aload_n 0, 1) := by decide +kernel
theorem dX4_count_17 : decode cX4_count 17 = .ok (.getfield 78, 3) := by decide +kernel
theorem dX4_count_20 : decode cX4_count 20 = .ok (.goto 23, 3) := by decide +kernel
theorem dX4_count_23 : decode cX4_count 23 = .ok (.iload_n 1, 1) := by decide +kernel
theorem dX4_count_24 : decode cX4_count 24 = .ok (.iconst 1, 1) := by decide +kernel
theorem dX4_count_25 : decode cX4_count 25 = .ok (.if_icmp .ne 10, 3) := by decide +kernel
theorem dX4_count_28 : decode cX4_count 28 = .ok (.aload_n 0, 1) := by decide +kernel
theorem dX4_count_29 : decode cX4_count 29 = .ok (.getfield 81, 3) := by decide +kernel
theorem dX4_count_32 : decode cX4_count 32 = .ok (.goto 11, 3) := by decide +kernel
theorem dX4_count_35 : decode cX4_count 35 = .ok (.aload_n 0, 1) := by decide +kernel
theorem dX4_count_36 : decode cX4_count 36 = .ok (.getfield 67, 3) := by decide +kernel
theorem dX4_count_39 : decode cX4_count 39 = .ok (.iload_n 1, 1) := by decide +kernel
theorem dX4_count_40 : decode cX4_count 40 = .ok (.iconst 2, 1) := by decide +kernel
theorem dX4_count_41 : decode cX4_count 41 = .ok (.isub, 1) := by decide +kernel
theorem dX4_count_42 : decode cX4_count 42 = .ok (.iaload, 1) := by decide +kernel
theorem dX4_count_43 : decode cX4_count 43 = .ok (.ireturn, 1) := by decide +kernel

