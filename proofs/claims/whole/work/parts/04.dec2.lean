theorem dX12_put_20 : decode cX12_put 20 = .ok (.getfield 123, 3) := by decide +kernel
theorem dX12_put_23 : decode cX12_put 23 = .ok (.aload_n 0, 1) := by decide +kernel
theorem dX12_put_24 : decode cX12_put 24 = .ok (.getfield 382, 3) := by decide +kernel
theorem dX12_put_27 : decode cX12_put 27 = .ok (.iload_n 2, 1) := by decide +kernel
theorem dX12_put_28 : decode cX12_put 28 = .ok (.iastore, 1) := by decide +kernel
theorem dX12_put_29 : decode cX12_put 29 = .ok (.aload_n 0, 1) := by decide +kernel
theorem dX12_put_30 : decode cX12_put 30 = .ok (.dup, 1) := by decide +kernel
theorem dX12_put_31 : decode cX12_put 31 = .ok (.getfield 382, 3) := by decide +kernel
theorem dX12_put_34 : decode cX12_put 34 = .ok (.iconst 1, 1) := by decide +kernel
theorem dX12_put_35 : decode cX12_put 35 = .ok (.iadd, 1) := by decide +kernel
theorem dX12_put_36 : decode cX12_put 36 = .ok (.putfield 382, 3) := by decide +kernel
theorem dX12_put_39 : decode cX12_put 39 = .ok (.aload_n 0, 1) := by decide +kernel
theorem dX12_put_40 : decode cX12_put 40 = .ok (.getfield 382, 3) := by decide +kernel
theorem dX12_put_43 : decode cX12_put 43 = .ok (.iconst 1, 1) := by decide +kernel
theorem dX12_put_44 : decode cX12_put 44 = .ok (.isub, 1) := by decide +kernel
theorem dX12_put_45 : decode cX12_put 45 = .ok (.ireturn, 1) := by decide +kernel
theorem dX12_putItems_0 : decode cX12_putItems 0 = .ok (.iload_n 1, 1) := by decide +kernel
theorem dX12_putItems_1 : decode cX12_putItems 1 = .ok (.istore_n 2, 1) := by decide +kernel
theorem dX12_putItems_2 : decode cX12_putItems 2 = .ok (.aload_n 0, 1) := by decide +kernel
theorem dX12_putItems_3 : decode cX12_putItems 3 = .ok (.getfield 69, 3) := by decide +kernel
theorem dX12_putItems_6 : decode cX12_putItems 6 = .ok (.iload_n 2, 1) := by decide +kernel
theorem dX12_putItems_7 : decode cX12_putItems 7 = .ok (.iaload, 1) := by decide +kernel
theorem dX12_putItems_8 : decode cX12_putItems 8 = .ok (.ifCond .lt 26, 3) := by decide +kernel
theorem dX12_putItems_11 : decode cX12_putItems 11 = .ok (.aload_n 0, 1) := by decide +kernel
theorem dX12_putItems_12 : decode cX12_putItems 12 = .ok (.aload_n 0, 1) := by decide +kernel
theorem dX12_putItems_13 : decode cX12_putItems 13 = .ok (.getfield 69, 3) := by decide +kernel
theorem dX12_putItems_16 : decode cX12_putItems 16 = .ok (.iload_n 2, 1) := by decide +kernel
theorem dX12_putItems_17 : decode cX12_putItems 17 = .ok (.iaload, 1) := by decide +kernel
theorem dX12_putItems_18 : decode cX12_putItems 18 = .ok (.aload_n 0, 1) := by decide +kernel
theorem dX12_putItems_19 : decode cX12_putItems 19 = .ok (.getfield 72, 3) := by decide +kernel
theorem dX12_putItems_22 : decode cX12_putItems 22 = .ok (.iload_n 2, 1) := by decide +kernel
theorem dX12_putItems_23 : decode cX12_putItems 23 = .ok (.iaload, 1) := by decide +kernel
theorem dX12_putItems_24 : decode cX12_putItems 24 = .ok (.invokevirtual 385, 3) := by decide +kernel
theorem dX12_putItems_27 : decode cX12_putItems 27 = .ok (.istore_n 3, 1) := by decide +kernel
theorem dX12_putItems_28 : decode cX12_putItems 28 = .ok (.iinc 2 1, 3) := by decide +kernel
theorem dX12_putItems_31 : decode cX12_putItems 31 = .ok (.goto (-29), 3) := by decide +kernel
theorem dX12_putItems_34 : decode cX12_putItems 34 = .ok (.return_, 1) := by decide +kernel
theorem dX12_codeThrough_0 : decode cX12_codeThrough 0 = .ok (.iconst 0, 1) := by decide +kernel
theorem dX12_codeThrough_1 : decode cX12_codeThrough 1 = .ok (.istore_n 2, 1) := by decide +kernel
theorem dX12_codeThrough_2 : decode cX12_codeThrough 2 = .ok (.aload_n 0, 1) := by decide +kernel
theorem dX12_codeThrough_3 : decode cX12_codeThrough 3 = .ok (.getfield 42, 3) := by decide +kernel
theorem dX12_codeThrough_6 : decode cX12_codeThrough 6 = .ok (.iload_n 1, 1) := by decide +kernel
theorem dX12_codeThrough_7 : decode cX12_codeThrough 7 = .ok (.iaload, 1) := by decide +kernel
theorem dX12_codeThrough_8 : decode cX12_codeThrough 8 = .ok (.tableswitch 185 1 7 #[44, 69, 185, 185, 104, 132, 158], 44) := by decide +kernel
theorem dX12_codeThrough_52 : decode cX12_codeThrough 52 = .ok (.aload_n 0, 1) := by decide +kernel
theorem dX12_codeThrough_53 : decode cX12_codeThrough 53 = .ok (.aload_n 0, 1) := by decide +kernel
theorem dX12_codeThrough_54 : decode cX12_codeThrough 54 = .ok (.getfield 57, 3) := by decide +kernel
theorem dX12_codeThrough_57 : decode cX12_codeThrough 57 = .ok (.iload_n 1, 1) := by decide +kernel
theorem dX12_codeThrough_58 : decode cX12_codeThrough 58 = .ok (.iaload, 1) := by decide +kernel
theorem dX12_codeThrough_59 : decode cX12_codeThrough 59 = .ok (.invokevirtual 388, 3) := by decide +kernel
theorem dX12_codeThrough_62 : decode cX12_codeThrough 62 = .ok (.aload_n 0, 1) := by decide +kernel
theorem dX12_codeThrough_63 : decode cX12_codeThrough 63 = .ok (.iconst 2, 1) := by decide +kernel
theorem dX12_codeThrough_64 : decode cX12_codeThrough 64 = .ok (.aload_n 0, 1) := by decide +kernel
theorem dX12_codeThrough_65 : decode cX12_codeThrough 65 = .ok (.getfield 48, 3) := by decide +kernel
theorem dX12_codeThrough_68 : decode cX12_codeThrough 68 = .ok (.iload_n 1, 1) := by decide +kernel
theorem dX12_codeThrough_69 : decode cX12_codeThrough 69 = .ok (.iaload, 1) := by decide +kernel
theorem dX12_codeThrough_70 : decode cX12_codeThrough 70 = .ok (.invokevirtual 385, 3) := by decide +kernel
theorem dX12_codeThrough_73 : decode cX12_codeThrough 73 = .ok (.istore_n 2, 1) := by decide +kernel
theorem dX12_codeThrough_74 : decode cX12_codeThrough 74 = .ok (.goto 180, 3) := by decide +kernel
theorem dX12_codeThrough_77 : decode cX12_codeThrough 77 = .ok (.aload_n 0, 1) := by decide +kernel
theorem dX12_codeThrough_78 : decode cX12_codeThrough 78 = .ok (.aload_n 0, 1) := by decide +kernel
theorem dX12_codeThrough_79 : decode cX12_codeThrough 79 = .ok (.getfield 54, 3) := by decide +kernel
theorem dX12_codeThrough_82 : decode cX12_codeThrough 82 = .ok (.iload_n 1, 1) := by decide +kernel
theorem dX12_codeThrough_83 : decode cX12_codeThrough 83 = .ok (.iaload, 1) := by decide +kernel
theorem dX12_codeThrough_84 : decode cX12_codeThrough 84 = .ok (.invokevirtual 388, 3) := by decide +kernel
theorem dX12_codeThrough_87 : decode cX12_codeThrough 87 = .ok (.aload_n 0, 1) := by decide +kernel
theorem dX12_codeThrough_88 : decode cX12_codeThrough 88 = .ok (.aload_n 0, 1) := by decide +kernel
theorem dX12_codeThrough_89 : decode cX12_codeThrough 89 = .ok (.getfield 57, 3) := by decide +kernel
theorem dX12_codeThrough_92 : decode cX12_codeThrough 92 = .ok (.iload_n 1, 1) := by decide +kernel
theorem dX12_codeThrough_93 : decode cX12_codeThrough 93 = .ok (.iaload, 1) := by decide +kernel
theorem dX12_codeThrough_94 : decode cX12_codeThrough 94 = .ok (.invokevirtual 388, 3) := by decide +kernel
theorem dX12_codeThrough_97 : decode cX12_codeThrough 97 = .ok (.aload_n 0, 1) := by decide +kernel
theorem dX12_codeThrough_98 : decode cX12_codeThrough 98 = .ok (.iconst 4, 1) := by decide +kernel
theorem dX12_codeThrough_99 : decode cX12_codeThrough 99 = .ok (.aload_n 0, 1) := by decide +kernel
theorem dX12_codeThrough_100 : decode cX12_codeThrough 100 = .ok (.getfield 48, 3) := by decide +kernel
theorem dX12_codeThrough_103 : decode cX12_codeThrough 103 = .ok (.iload_n 1, 1) := by decide +kernel
theorem dX12_codeThrough_104 : decode cX12_codeThrough 104 = .ok (.iaload, 1) := by decide +kernel
theorem dX12_codeThrough_105 : decode cX12_codeThrough 105 = .ok (.invokevirtual 385, 3) := by decide +kernel
theorem dX12_codeThrough_108 : decode cX12_codeThrough 108 = .ok (.istore_n 2, 1) := by decide +kernel
theorem dX12_codeThrough_109 : decode cX12_codeThrough 109 = .ok (.goto 145, 3) := by decide +kernel
theorem dX12_codeThrough_112 : decode cX12_codeThrough 112 = .ok (.aload_n 0, 1) := by decide +kernel
theorem dX12_codeThrough_113 : decode cX12_codeThrough 113 = .ok (.bipush 13, 2) := by decide +kernel
theorem dX12_codeThrough_115 : decode cX12_codeThrough 115 = .ok (.aload_n 0, 1) := by decide +kernel
theorem dX12_codeThrough_116 : decode cX12_codeThrough 116 = .ok (.getfield 51, 3) := by decide +kernel
theorem dX12_codeThrough_119 : decode cX12_codeThrough 119 = .ok (.iload_n 1, 1) := by decide +kernel
theorem dX12_codeThrough_120 : decode cX12_codeThrough 120 = .ok (.iaload, 1) := by decide +kernel
theorem dX12_codeThrough_121 : decode cX12_codeThrough 121 = .ok (.invokevirtual 385, 3) := by decide +kernel
theorem dX12_codeThrough_124 : decode cX12_codeThrough 124 = .ok (.istore_n 2, 1) := by decide +kernel
theorem dX12_codeThrough_125 : decode cX12_codeThrough 125 = .ok (.aload_n 0, 1) := by decide +kernel
theorem dX12_codeThrough_126 : decode cX12_codeThrough 126 = .ok (.iconst 2, 1) := by decide +kernel
theorem dX12_codeThrough_127 : decode cX12_codeThrough 127 = .ok (.aload_n 0, 1) := by decide +kernel
theorem dX12_codeThrough_128 : decode cX12_codeThrough 128 = .ok (.getfield 48, 3) := by decide +kernel
theorem dX12_codeThrough_131 : decode cX12_codeThrough 131 = .ok (.iload_n 1, 1) := by decide +kernel
theorem dX12_codeThrough_132 : decode cX12_codeThrough 132 = .ok (.iaload, 1) := by decide +kernel
theorem dX12_codeThrough_133 : decode cX12_codeThrough 133 = .ok (.invokevirtual 385, 3) := by decide +kernel
theorem dX12_codeThrough_136 : decode cX12_codeThrough 136 = .ok (.istore_n 2, 1) := by decide +kernel
theorem dX12_codeThrough_137 : decode cX12_codeThrough 137 = .ok (.goto 117, 3) := by decide +kernel
theorem dX12_codeThrough_140 : decode cX12_codeThrough 140 = .ok (.aload_n 0, 1) := by decide +kernel
theorem dX12_codeThrough_141 : decode cX12_codeThrough 141 = .ok (.aload_n 0, 1) := by decide +kernel
theorem dX12_codeThrough_142 : decode cX12_codeThrough 142 = .ok (.getfield 54, 3) := by decide +kernel
theorem dX12_codeThrough_145 : decode cX12_codeThrough 145 = .ok (.iload_n 1, 1) := by decide +kernel
theorem dX12_codeThrough_146 : decode cX12_codeThrough 146 = .ok (.iaload, 1) := by decide +kernel
theorem dX12_codeThrough_147 : decode cX12_codeThrough 147 = .ok (.invokevirtual 388, 3) := by decide +kernel
theorem dX12_codeThrough_150 : decode cX12_codeThrough 150 = .ok (.aload_n 0, 1) := by decide +kernel
theorem dX12_codeThrough_151 : decode cX12_codeThrough 151 = .ok (.bipush 14, 2) := by decide +kernel
theorem dX12_codeThrough_153 : decode cX12_codeThrough 153 = .ok (.aload_n 0, 1) := by decide +kernel
theorem dX12_codeThrough_154 : decode cX12_codeThrough 154 = .ok (.getfield 51, 3) := by decide +kernel
theorem dX12_codeThrough_157 : decode cX12_codeThrough 157 = .ok (.iload_n 1, 1) := by decide +kernel
theorem dX12_codeThrough_158 : decode cX12_codeThrough 158 = .ok (.iaload, 1) := by decide +kernel
theorem dX12_codeThrough_159 : decode cX12_codeThrough 159 = .ok (.invokevirtual 385, 3) := by decide +kernel
theorem dX12_codeThrough_162 : decode cX12_codeThrough 162 = .ok (.istore_n 2, 1) := by decide +kernel
theorem dX12_codeThrough_163 : decode cX12_codeThrough 163 = .ok (.goto 91, 3) := by decide +kernel
theorem dX12_codeThrough_166 : decode cX12_codeThrough 166 = .ok (.aload_n 0, 1) := by decide +kernel
theorem dX12_codeThrough_167 : decode cX12_codeThrough 167 = .ok (.bipush 7, 2) := by decide +kernel
theorem dX12_codeThrough_169 : decode cX12_codeThrough 169 = .ok (.iload_n 1, 1) := by decide +kernel
theorem dX12_codeThrough_170 : decode cX12_codeThrough 170 = .ok (.invokevirtual 367, 3) := by decide +kernel
theorem dX12_codeThrough_173 : decode cX12_codeThrough 173 = .ok (.aload_n 0, 1) := by decide +kernel
theorem dX12_codeThrough_174 : decode cX12_codeThrough 174 = .ok (.getfield 75, 3) := by decide +kernel
theorem dX12_codeThrough_177 : decode cX12_codeThrough 177 = .ok (.bipush 26, 2) := by decide +kernel
theorem dX12_codeThrough_179 : decode cX12_codeThrough 179 = .ok (.aload_n 0, 1) := by decide +kernel
theorem dX12_codeThrough_180 : decode cX12_codeThrough 180 = .ok (.getfield 308, 3) := by decide +kernel
theorem dX12_codeThrough_183 : decode cX12_codeThrough 183 = .ok (.imul, 1) := by decide +kernel
theorem dX12_codeThrough_184 : decode cX12_codeThrough 184 = .ok (.aload_n 0, 1) := by decide +kernel
theorem dX12_codeThrough_185 : decode cX12_codeThrough 185 = .ok (.getfield 48, 3) := by decide +kernel
theorem dX12_codeThrough_188 : decode cX12_codeThrough 188 = .ok (.iload_n 1, 1) := by decide +kernel
theorem dX12_codeThrough_189 : decode cX12_codeThrough 189 = .ok (.iaload, 1) := by decide +kernel
theorem dX12_codeThrough_190 : decode cX12_codeThrough 190 = .ok (.iadd, 1) := by decide +kernel
theorem dX12_codeThrough_191 : decode cX12_codeThrough 191 = .ok (.iaload, 1) := by decide +kernel
theorem dX12_codeThrough_192 : decode cX12_codeThrough 192 = .ok (.ireturn, 1) := by decide +kernel
theorem dX12_codeThrough_193 : decode cX12_codeThrough 193 = .ok (.aload_n 0, 1) := by decide +kernel
theorem dX12_codeThrough_194 : decode cX12_codeThrough 194 = .ok (.aload_n 0, 1) := by decide +kernel
theorem dX12_codeThrough_195 : decode cX12_codeThrough 195 = .ok (.getfield 42, 3) := by decide +kernel
theorem dX12_codeThrough_198 : decode cX12_codeThrough 198 = .ok (.iload_n 1, 1) := by decide +kernel
theorem dX12_codeThrough_199 : decode cX12_codeThrough 199 = .ok (.iaload, 1) := by decide +kernel
theorem dX12_codeThrough_200 : decode cX12_codeThrough 200 = .ok (.iload_n 1, 1) := by decide +kernel
theorem dX12_codeThrough_201 : decode cX12_codeThrough 201 = .ok (.invokevirtual 367, 3) := by decide +kernel
theorem dX12_codeThrough_204 : decode cX12_codeThrough 204 = .ok (.aload_n 0, 1) := by decide +kernel
theorem dX12_codeThrough_205 : decode cX12_codeThrough 205 = .ok (.getfield 114, 3) := by decide +kernel
theorem dX12_codeThrough_208 : decode cX12_codeThrough 208 = .ok (.aload_n 0, 1) := by decide +kernel
theorem dX12_codeThrough_209 : decode cX12_codeThrough 209 = .ok (.getfield 351, 3) := by decide +kernel
theorem dX12_codeThrough_212 : decode cX12_codeThrough 212 = .ok (.iconst 1, 1) := by decide +kernel
theorem dX12_codeThrough_213 : decode cX12_codeThrough 213 = .ok (.isub, 1) := by decide +kernel
theorem dX12_codeThrough_214 : decode cX12_codeThrough 214 = .ok (.aload_n 0, 1) := by decide +kernel
theorem dX12_codeThrough_215 : decode cX12_codeThrough 215 = .ok (.getfield 382, 3) := by decide +kernel
theorem dX12_codeThrough_218 : decode cX12_codeThrough 218 = .ok (.iastore, 1) := by decide +kernel
theorem dX12_codeThrough_219 : decode cX12_codeThrough 219 = .ok (.aload_n 0, 1) := by decide +kernel
theorem dX12_codeThrough_220 : decode cX12_codeThrough 220 = .ok (.aload_n 0, 1) := by decide +kernel
theorem dX12_codeThrough_221 : decode cX12_codeThrough 221 = .ok (.getfield 54, 3) := by decide +kernel
theorem dX12_codeThrough_224 : decode cX12_codeThrough 224 = .ok (.iload_n 1, 1) := by decide +kernel
theorem dX12_codeThrough_225 : decode cX12_codeThrough 225 = .ok (.iaload, 1) := by decide +kernel
theorem dX12_codeThrough_226 : decode cX12_codeThrough 226 = .ok (.invokevirtual 388, 3) := by decide +kernel
theorem dX12_codeThrough_229 : decode cX12_codeThrough 229 = .ok (.aload_n 0, 1) := by decide +kernel
theorem dX12_codeThrough_230 : decode cX12_codeThrough 230 = .ok (.getfield 126, 3) := by decide +kernel
theorem dX12_codeThrough_233 : decode cX12_codeThrough 233 = .ok (.aload_n 0, 1) := by decide +kernel
theorem dX12_codeThrough_234 : decode cX12_codeThrough 234 = .ok (.getfield 351, 3) := by decide +kernel
theorem dX12_codeThrough_237 : decode cX12_codeThrough 237 = .ok (.iconst 1, 1) := by decide +kernel
theorem dX12_codeThrough_238 : decode cX12_codeThrough 238 = .ok (.isub, 1) := by decide +kernel
theorem dX12_codeThrough_239 : decode cX12_codeThrough 239 = .ok (.aload_n 0, 1) := by decide +kernel
theorem dX12_codeThrough_240 : decode cX12_codeThrough 240 = .ok (.bipush 11, 2) := by decide +kernel
theorem dX12_codeThrough_242 : decode cX12_codeThrough 242 = .ok (.iconst 0, 1) := by decide +kernel
theorem dX12_codeThrough_243 : decode cX12_codeThrough 243 = .ok (.invokevirtual 385, 3) := by decide +kernel
theorem dX12_codeThrough_246 : decode cX12_codeThrough 246 = .ok (.iastore, 1) := by decide +kernel
theorem dX12_codeThrough_247 : decode cX12_codeThrough 247 = .ok (.aload_n 0, 1) := by decide +kernel
theorem dX12_codeThrough_248 : decode cX12_codeThrough 248 = .ok (.getfield 60, 3) := by decide +kernel
theorem dX12_codeThrough_251 : decode cX12_codeThrough 251 = .ok (.iload_n 1, 1) := by decide +kernel
theorem dX12_codeThrough_252 : decode cX12_codeThrough 252 = .ok (.iaload, 1) := by decide +kernel
theorem dX12_codeThrough_253 : decode cX12_codeThrough 253 = .ok (.ireturn, 1) := by decide +kernel
theorem dX12_codeThrough_254 : decode cX12_codeThrough 254 = .ok (.aload_n 0, 1) := by decide +kernel
theorem dX12_codeThrough_255 : decode cX12_codeThrough 255 = .ok (.getfield 66, 3) := by decide +kernel
theorem dX12_codeThrough_258 : decode cX12_codeThrough 258 = .ok (.iload_n 1, 1) := by decide +kernel
theorem dX12_codeThrough_259 : decode cX12_codeThrough 259 = .ok (.iaload, 1) := by decide +kernel
theorem dX12_codeThrough_260 : decode cX12_codeThrough 260 = .ok (.ireturn, 1) := by decide +kernel
theorem dX12_codeBack_0 : decode cX12_codeBack 0 = .ok (.aload_n 0, 1) := by decide +kernel
theorem dX12_codeBack_1 : decode cX12_codeBack 1 = .ok (.getfield 108, 3) := by decide +kernel
theorem dX12_codeBack_4 : decode cX12_codeBack 4 = .ok (.aload_n 0, 1) := by decide +kernel
theorem dX12_codeBack_5 : decode cX12_codeBack 5 = .ok (.getfield 351, 3) := by decide +kernel
theorem dX12_codeBack_8 : decode cX12_codeBack 8 = .ok (.iconst 1, 1) := by decide +kernel
theorem dX12_codeBack_9 : decode cX12_codeBack 9 = .ok (.isub, 1) := by decide +kernel
theorem dX12_codeBack_10 : decode cX12_codeBack 10 = .ok (.iaload, 1) := by decide +kernel
theorem dX12_codeBack_11 : decode cX12_codeBack 11 = .ok (.istore_n 1, 1) := by decide +kernel
theorem dX12_codeBack_12 : decode cX12_codeBack 12 = .ok (.aload_n 0, 1) := by decide +kernel
theorem dX12_codeBack_13 : decode cX12_codeBack 13 = .ok (.getfield 111, 3) := by decide +kernel
theorem dX12_codeBack_16 : decode cX12_codeBack 16 = .ok (.aload_n 0, 1) := by decide +kernel
theorem dX12_codeBack_17 : decode cX12_codeBack 17 = .ok (.getfield 351, 3) := by decide +kernel
theorem dX12_codeBack_20 : decode cX12_codeBack 20 = .ok (.iconst 1, 1) := by decide +kernel
theorem dX12_codeBack_21 : decode cX12_codeBack 21 = .ok (.isub, 1) := by decide +kernel
theorem dX12_codeBack_22 : decode cX12_codeBack 22 = .ok (.iaload, 1) := by decide +kernel
theorem dX12_codeBack_23 : decode cX12_codeBack 23 = .ok (.istore_n 2, 1) := by decide +kernel
theorem dX12_codeBack_24 : decode cX12_codeBack 24 = .ok (.aload_n 0, 1) := by decide +kernel
theorem dX12_codeBack_25 : decode cX12_codeBack 25 = .ok (.getfield 126, 3) := by decide +kernel
theorem dX12_codeBack_28 : decode cX12_codeBack 28 = .ok (.aload_n 0, 1) := by decide +kernel
theorem dX12_codeBack_29 : decode cX12_codeBack 29 = .ok (.getfield 351, 3) := by decide +kernel
theorem dX12_codeBack_32 : decode cX12_codeBack 32 = .ok (.iconst 1, 1) := by decide +kernel
theorem dX12_codeBack_33 : decode cX12_codeBack 33 = .ok (.isub, 1) := by decide +kernel
theorem dX12_codeBack_34 : decode cX12_codeBack 34 = .ok (.iaload, 1) := by decide +kernel
theorem dX12_codeBack_35 : decode cX12_codeBack 35 = .ok (.istore_n 3, 1) := by decide +kernel
theorem dX12_codeBack_36 : decode cX12_codeBack 36 = .ok (.iload_n 1, 1) := by decide +kernel
theorem dX12_codeBack_37 : decode cX12_codeBack 37 = .ok (.iconst 3, 1) := by decide +kernel
theorem dX12_codeBack_38 : decode cX12_codeBack 38 = .ok (.if_icmp .ne 61, 3) := by decide +kernel
theorem dX12_codeBack_41 : decode cX12_codeBack 41 = .ok (.aload_n 0, 1) := by decide +kernel
theorem dX12_codeBack_42 : decode cX12_codeBack 42 = .ok (.getfield 51, 3) := by decide +kernel
theorem dX12_codeBack_45 : decode cX12_codeBack 45 = .ok (.iload_n 2, 1) := by decide +kernel
theorem dX12_codeBack_46 : decode cX12_codeBack 46 = .ok (.iaload, 1) := by decide +kernel
theorem dX12_codeBack_47 : decode cX12_codeBack 47 = .ok (.iconst 1, 1) := by decide +kernel
theorem dX12_codeBack_48 : decode cX12_codeBack 48 = .ok (.if_icmp .ne 51, 3) := by decide +kernel
theorem dX12_codeBack_51 : decode cX12_codeBack 51 = .ok (.aload_n 0, 1) := by decide +kernel
theorem dX12_codeBack_52 : decode cX12_codeBack 52 = .ok (.getfield 126, 3) := by decide +kernel
theorem dX12_codeBack_55 : decode cX12_codeBack 55 = .ok (.aload_n 0, 1) := by decide +kernel
theorem dX12_codeBack_56 : decode cX12_codeBack 56 = .ok (.getfield 351, 3) := by decide +kernel
theorem dX12_codeBack_59 : decode cX12_codeBack 59 = .ok (.iconst 1, 1) := by decide +kernel
theorem dX12_codeBack_60 : decode cX12_codeBack 60 = .ok (.isub, 1) := by decide +kernel
theorem dX12_codeBack_61 : decode cX12_codeBack 61 = .ok (.aload_n 0, 1) := by decide +kernel
theorem dX12_codeBack_62 : decode cX12_codeBack 62 = .ok (.bipush 12, 2) := by decide +kernel
theorem dX12_codeBack_64 : decode cX12_codeBack 64 = .ok (.iconst 0, 1) := by decide +kernel
theorem dX12_codeBack_65 : decode cX12_codeBack 65 = .ok (.invokevirtual 385, 3) := by decide +kernel
theorem dX12_codeBack_68 : decode cX12_codeBack 68 = .ok (.iastore, 1) := by decide +kernel
theorem dX12_codeBack_69 : decode cX12_codeBack 69 = .ok (.aload_n 0, 1) := by decide +kernel
theorem dX12_codeBack_70 : decode cX12_codeBack 70 = .ok (.getfield 123, 3) := by decide +kernel
theorem dX12_codeBack_73 : decode cX12_codeBack 73 = .ok (.iload_n 3, 1) := by decide +kernel
theorem dX12_codeBack_74 : decode cX12_codeBack 74 = .ok (.aload_n 0, 1) := by decide +kernel
theorem dX12_codeBack_75 : decode cX12_codeBack 75 = .ok (.getfield 382, 3) := by decide +kernel
theorem dX12_codeBack_78 : decode cX12_codeBack 78 = .ok (.iastore, 1) := by decide +kernel
theorem dX12_codeBack_79 : decode cX12_codeBack 79 = .ok (.aload_n 0, 1) := by decide +kernel
theorem dX12_codeBack_80 : decode cX12_codeBack 80 = .ok (.getfield 108, 3) := by decide +kernel
theorem dX12_codeBack_83 : decode cX12_codeBack 83 = .ok (.aload_n 0, 1) := by decide +kernel
theorem dX12_codeBack_84 : decode cX12_codeBack 84 = .ok (.getfield 351, 3) := by decide +kernel
theorem dX12_codeBack_87 : decode cX12_codeBack 87 = .ok (.iconst 1, 1) := by decide +kernel
theorem dX12_codeBack_88 : decode cX12_codeBack 88 = .ok (.isub, 1) := by decide +kernel
theorem dX12_codeBack_89 : decode cX12_codeBack 89 = .ok (.bipush 8, 2) := by decide +kernel
theorem dX12_codeBack_91 : decode cX12_codeBack 91 = .ok (.iastore, 1) := by decide +kernel
theorem dX12_codeBack_92 : decode cX12_codeBack 92 = .ok (.aload_n 0, 1) := by decide +kernel
theorem dX12_codeBack_93 : decode cX12_codeBack 93 = .ok (.getfield 63, 3) := by decide +kernel
theorem dX12_codeBack_96 : decode cX12_codeBack 96 = .ok (.iload_n 2, 1) := by decide +kernel
theorem dX12_codeBack_97 : decode cX12_codeBack 97 = .ok (.iaload, 1) := by decide +kernel
theorem dX12_codeBack_98 : decode cX12_codeBack 98 = .ok (.ireturn, 1) := by decide +kernel
theorem dX12_codeBack_99 : decode cX12_codeBack 99 = .ok (.iload_n 1, 1) := by decide +kernel
theorem dX12_codeBack_100 : decode cX12_codeBack 100 = .ok (.iconst 4, 1) := by decide +kernel
theorem dX12_codeBack_101 : decode cX12_codeBack 101 = .ok (.if_icmp .ne 22, 3) := by decide +kernel
theorem dX12_codeBack_104 : decode cX12_codeBack 104 = .ok (.aload_n 0, 1) := by decide +kernel
theorem dX12_codeBack_105 : decode cX12_codeBack 105 = .ok (.bipush 12, 2) := by decide +kernel
theorem dX12_codeBack_107 : decode cX12_codeBack 107 = .ok (.aload_n 0, 1) := by decide +kernel
theorem dX12_codeBack_108 : decode cX12_codeBack 108 = .ok (.getfield 114, 3) := by decide +kernel
theorem dX12_codeBack_111 : decode cX12_codeBack 111 = .ok (.aload_n 0, 1) := by decide +kernel
theorem dX12_codeBack_112 : decode cX12_codeBack 112 = .ok (.getfield 351, 3) := by decide +kernel
theorem dX12_codeBack_115 : decode cX12_codeBack 115 = .ok (.iconst 1, 1) := by decide +kernel
theorem dX12_codeBack_116 : decode cX12_codeBack 116 = .ok (.isub, 1) := by decide +kernel
theorem dX12_codeBack_117 : decode cX12_codeBack 117 = .ok (.iaload, 1) := by decide +kernel
theorem dX12_codeBack_118 : decode cX12_codeBack 118 = .ok (.invokevirtual 385, 3) := by decide +kernel
theorem dX12_codeBack_121 : decode cX12_codeBack 121 = .ok (.istore 4, 2) := by decide +kernel
theorem dX12_codeBack_123 : decode cX12_codeBack 123 = .ok (.iload_n 1, 1) := by decide +kernel
theorem dX12_codeBack_124 : decode cX12_codeBack 124 = .ok (.bipush 7, 2) := by decide +kernel
theorem dX12_codeBack_126 : decode cX12_codeBack 126 = .ok (.if_icmp .eq 13, 3) := by decide +kernel
theorem dX12_codeBack_129 : decode cX12_codeBack 129 = .ok (.aload_n 0, 1) := by decide +kernel
theorem dX12_codeBack_130 : decode cX12_codeBack 130 = .ok (.getfield 123, 3) := by decide +kernel
theorem dX12_codeBack_133 : decode cX12_codeBack 133 = .ok (.iload_n 3, 1) := by decide +kernel
theorem dX12_codeBack_134 : decode cX12_codeBack 134 = .ok (.aload_n 0, 1) := by decide +kernel
theorem dX12_codeBack_135 : decode cX12_codeBack 135 = .ok (.getfield 382, 3) := by decide +kernel
theorem dX12_codeBack_138 : decode cX12_codeBack 138 = .ok (.iastore, 1) := by decide +kernel
theorem dX12_codeBack_139 : decode cX12_codeBack 139 = .ok (.aload_n 0, 1) := by decide +kernel
theorem dX12_codeBack_140 : decode cX12_codeBack 140 = .ok (.dup, 1) := by decide +kernel
theorem dX12_codeBack_141 : decode cX12_codeBack 141 = .ok (.getfield 351, 3) := by decide +kernel
theorem dX12_codeBack_144 : decode cX12_codeBack 144 = .ok (.iconst 1, 1) := by decide +kernel
theorem dX12_codeBack_145 : decode cX12_codeBack 145 = .ok (.isub, 1) := by decide +kernel
theorem dX12_codeBack_146 : decode cX12_codeBack 146 = .ok (.putfield 351, 3) := by decide +kernel
theorem dX12_codeBack_149 : decode cX12_codeBack 149 = .ok (.aload_n 0, 1) := by decide +kernel
theorem dX12_codeBack_150 : decode cX12_codeBack 150 = .ok (.getfield 66, 3) := by decide +kernel
theorem dX12_codeBack_153 : decode cX12_codeBack 153 = .ok (.iload_n 2, 1) := by decide +kernel
theorem dX12_codeBack_154 : decode cX12_codeBack 154 = .ok (.iaload, 1) := by decide +kernel
theorem dX12_codeBack_155 : decode cX12_codeBack 155 = .ok (.ireturn, 1) := by decide +kernel
theorem dX12_translate_0 : decode cX12_translate 0 = .ok (.aload_n 0, 1) := by decide +kernel
theorem dX12_translate_1 : decode cX12_translate 1 = .ok (.iconst 0, 1) := by decide +kernel
theorem dX12_translate_2 : decode cX12_translate 2 = .ok (.putfield 382, 3) := by decide +kernel
theorem dX12_translate_5 : decode cX12_translate 5 = .ok (.aload_n 0, 1) := by decide +kernel
theorem dX12_translate_6 : decode cX12_translate 6 = .ok (.iconst 0, 1) := by decide +kernel
theorem dX12_translate_7 : decode cX12_translate 7 = .ok (.putfield 351, 3) := by decide +kernel
theorem dX12_translate_10 : decode cX12_translate 10 = .ok (.aload_n 0, 1) := by decide +kernel
theorem dX12_translate_11 : decode cX12_translate 11 = .ok (.getfield 78, 3) := by decide +kernel
theorem dX12_translate_14 : decode cX12_translate 14 = .ok (.aload_n 0, 1) := by decide +kernel
theorem dX12_translate_15 : decode cX12_translate 15 = .ok (.getfield 308, 3) := by decide +kernel
theorem dX12_translate_18 : decode cX12_translate 18 = .ok (.iaload, 1) := by decide +kernel
theorem dX12_translate_19 : decode cX12_translate 19 = .ok (.istore_n 1, 1) := by decide +kernel
theorem dX12_translate_20 : decode cX12_translate 20 = .ok (.aload_n 0, 1) := by decide +kernel
theorem dX12_translate_21 : decode cX12_translate 21 = .ok (.getfield 382, 3) := by decide +kernel
theorem dX12_translate_24 : decode cX12_translate 24 = .ok (.bipush 65, 2) := by decide +kernel
theorem dX12_translate_26 : decode cX12_translate 26 = .ok (.if_icmp .ge 34, 3) := by decide +kernel
theorem dX12_translate_29 : decode cX12_translate 29 = .ok (.iload_n 1, 1) := by decide +kernel
theorem dX12_translate_30 : decode cX12_translate 30 = .ok (.ifCond .ge 10, 3) := by decide +kernel
theorem dX12_translate_33 : decode cX12_translate 33 = .ok (.aload_n 0, 1) := by decide +kernel
theorem dX12_translate_34 : decode cX12_translate 34 = .ok (.getfield 351, 3) := by decide +kernel
theorem dX12_translate_37 : decode cX12_translate 37 = .ok (.ifCond .le 23, 3) := by decide +kernel
theorem dX12_translate_40 : decode cX12_translate 40 = .ok (.iload_n 1, 1) := by decide +kernel
theorem dX12_translate_41 : decode cX12_translate 41 = .ok (.ifCond .lt 11, 3) := by decide +kernel
theorem dX12_translate_44 : decode cX12_translate 44 = .ok (.aload_n 0, 1) := by decide +kernel
theorem dX12_translate_45 : decode cX12_translate 45 = .ok (.iload_n 1, 1) := by decide +kernel
theorem dX12_translate_46 : decode cX12_translate 46 = .ok (.invokevirtual 391, 3) := by decide +kernel
theorem dX12_translate_49 : decode cX12_translate 49 = .ok (.goto 7, 3) := by decide +kernel
theorem dX12_translate_52 : decode cX12_translate 52 = .ok (.aload_n 0, 1) := by decide +kernel
theorem dX12_translate_53 : decode cX12_translate 53 = .ok (.invokevirtual 394, 3) := by decide +kernel
theorem dX12_translate_56 : decode cX12_translate 56 = .ok (.istore_n 1, 1) := by decide +kernel
theorem dX12_translate_57 : decode cX12_translate 57 = .ok (.goto (-37), 3) := by decide +kernel
theorem dX12_translate_60 : decode cX12_translate 60 = .ok (.aload_n 0, 1) := by decide +kernel
theorem dX12_translate_61 : decode cX12_translate 61 = .ok (.bipush 15, 2) := by decide +kernel
theorem dX12_translate_63 : decode cX12_translate 63 = .ok (.iconst 0, 1) := by decide +kernel
theorem dX12_translate_64 : decode cX12_translate 64 = .ok (.invokevirtual 385, 3) := by decide +kernel
theorem dX12_translate_67 : decode cX12_translate 67 = .ok (.istore_n 2, 1) := by decide +kernel
theorem dX12_translate_68 : decode cX12_translate 68 = .ok (.return_, 1) := by decide +kernel
theorem dX12_compile_0 : decode cX12_compile 0 = .ok (.aload_n 0, 1) := by decide +kernel
theorem dX12_compile_1 : decode cX12_compile 1 = .ok (.iconst 0, 1) := by decide +kernel
theorem dX12_compile_2 : decode cX12_compile 2 = .ok (.putfield 183, 3) := by decide +kernel
theorem dX12_compile_5 : decode cX12_compile 5 = .ok (.aload_n 0, 1) := by decide +kernel
theorem dX12_compile_6 : decode cX12_compile 6 = .ok (.getfield 194, 3) := by decide +kernel
theorem dX12_compile_9 : decode cX12_compile 9 = .ok (.ifCond .ne 9, 3) := by decide +kernel
theorem dX12_compile_12 : decode cX12_compile 12 = .ok (.aload_n 0, 1) := by decide +kernel
theorem dX12_compile_13 : decode cX12_compile 13 = .ok (.iconst 1, 1) := by decide +kernel
theorem dX12_compile_14 : decode cX12_compile 14 = .ok (.invokevirtual 190, 3) := by decide +kernel
theorem dX12_compile_17 : decode cX12_compile 17 = .ok (.ireturn, 1) := by decide +kernel
theorem dX12_compile_18 : decode cX12_compile 18 = .ok (.aload_n 0, 1) := by decide +kernel
theorem dX12_compile_19 : decode cX12_compile 19 = .ok (.invokevirtual 397, 3) := by decide +kernel
theorem dX12_compile_22 : decode cX12_compile 22 = .ok (.aload_n 0, 1) := by decide +kernel
theorem dX12_compile_23 : decode cX12_compile 23 = .ok (.iconst 0, 1) := by decide +kernel
theorem dX12_compile_24 : decode cX12_compile 24 = .ok (.putfield 219, 3) := by decide +kernel
theorem dX12_compile_27 : decode cX12_compile 27 = .ok (.aload_n 0, 1) := by decide +kernel
theorem dX12_compile_28 : decode cX12_compile 28 = .ok (.getfield 253, 3) := by decide +kernel
theorem dX12_compile_31 : decode cX12_compile 31 = .ok (.ifCond .lt 15, 3) := by decide +kernel
theorem dX12_compile_34 : decode cX12_compile 34 = .ok (.aload_n 0, 1) := by decide +kernel
theorem dX12_compile_35 : decode cX12_compile 35 = .ok (.aload_n 0, 1) := by decide +kernel
theorem dX12_compile_36 : decode cX12_compile 36 = .ok (.getfield 253, 3) := by decide +kernel
theorem dX12_compile_39 : decode cX12_compile 39 = .ok (.bipush 8, 2) := by decide +kernel
theorem dX12_compile_41 : decode cX12_compile 41 = .ok (.iconst 2, 1) := by decide +kernel
theorem dX12_compile_42 : decode cX12_compile 42 = .ok (.invokevirtual 206, 3) := by decide +kernel
theorem dX12_compile_45 : decode cX12_compile 45 = .ok (.ireturn, 1) := by decide +kernel
theorem dX12_compile_46 : decode cX12_compile 46 = .ok (.aload_n 0, 1) := by decide +kernel
theorem dX12_compile_47 : decode cX12_compile 47 = .ok (.invokevirtual 400, 3) := by decide +kernel
theorem dX12_compile_50 : decode cX12_compile 50 = .ok (.aload_n 0, 1) := by decide +kernel
theorem dX12_compile_51 : decode cX12_compile 51 = .ok (.getfield 253, 3) := by decide +kernel
theorem dX12_compile_54 : decode cX12_compile 54 = .ok (.ifCond .lt 15, 3) := by decide +kernel
theorem dX12_compile_57 : decode cX12_compile 57 = .ok (.aload_n 0, 1) := by decide +kernel
theorem dX12_compile_58 : decode cX12_compile 58 = .ok (.aload_n 0, 1) := by decide +kernel
theorem dX12_compile_59 : decode cX12_compile 59 = .ok (.getfield 253, 3) := by decide +kernel
theorem dX12_compile_62 : decode cX12_compile 62 = .ok (.bipush 9, 2) := by decide +kernel
theorem dX12_compile_64 : decode cX12_compile 64 = .ok (.iconst 3, 1) := by decide +kernel
theorem dX12_compile_65 : decode cX12_compile 65 = .ok (.invokevirtual 206, 3) := by decide +kernel
theorem dX12_compile_68 : decode cX12_compile 68 = .ok (.ireturn, 1) := by decide +kernel
theorem dX12_compile_69 : decode cX12_compile 69 = .ok (.aload_n 0, 1) := by decide +kernel
theorem dX12_compile_70 : decode cX12_compile 70 = .ok (.invokevirtual 403, 3) := by decide +kernel
theorem dX12_compile_73 : decode cX12_compile 73 = .ok (.aload_n 0, 1) := by decide +kernel
theorem dX12_compile_74 : decode cX12_compile 74 = .ok (.getfield 382, 3) := by decide +kernel
theorem dX12_compile_77 : decode cX12_compile 77 = .ok (.bipush 64, 2) := by decide +kernel
theorem dX12_compile_79 : decode cX12_compile 79 = .ok (.if_icmp .le 13, 3) := by decide +kernel
theorem dX12_compile_82 : decode cX12_compile 82 = .ok (.aload_n 0, 1) := by decide +kernel
theorem dX12_compile_83 : decode cX12_compile 83 = .ok (.bipush 64, 2) := by decide +kernel
theorem dX12_compile_85 : decode cX12_compile 85 = .ok (.bipush 10, 2) := by decide +kernel
theorem dX12_compile_87 : decode cX12_compile 87 = .ok (.iconst 4, 1) := by decide +kernel
theorem dX12_compile_88 : decode cX12_compile 88 = .ok (.invokevirtual 206, 3) := by decide +kernel
theorem dX12_compile_91 : decode cX12_compile 91 = .ok (.ireturn, 1) := by decide +kernel
theorem dX12_compile_92 : decode cX12_compile 92 = .ok (.aload_n 0, 1) := by decide +kernel
theorem dX12_compile_93 : decode cX12_compile 93 = .ok (.iconst (-1), 1) := by decide +kernel
theorem dX12_compile_94 : decode cX12_compile 94 = .ok (.putfield 20, 3) := by decide +kernel
theorem dX12_compile_97 : decode cX12_compile 97 = .ok (.aload_n 0, 1) := by decide +kernel
theorem dX12_compile_98 : decode cX12_compile 98 = .ok (.iconst (-1), 1) := by decide +kernel
theorem dX12_compile_99 : decode cX12_compile 99 = .ok (.putfield 24, 3) := by decide +kernel
theorem dX12_compile_102 : decode cX12_compile 102 = .ok (.aload_n 0, 1) := by decide +kernel
theorem dX12_compile_103 : decode cX12_compile 103 = .ok (.aload_n 0, 1) := by decide +kernel
theorem dX12_compile_104 : decode cX12_compile 104 = .ok (.getfield 382, 3) := by decide +kernel
theorem dX12_compile_107 : decode cX12_compile 107 = .ok (.putfield 406, 3) := by decide +kernel
theorem dX12_compile_110 : decode cX12_compile 110 = .ok (.iconst 0, 1) := by decide +kernel
theorem dX12_compile_111 : decode cX12_compile 111 = .ok (.istore_n 1, 1) := by decide +kernel
theorem dX12_compile_112 : decode cX12_compile 112 = .ok (.iload_n 1, 1) := by decide +kernel
theorem dX12_compile_113 : decode cX12_compile 113 = .ok (.aload_n 0, 1) := by decide +kernel
theorem dX12_compile_114 : decode cX12_compile 114 = .ok (.getfield 382, 3) := by decide +kernel
theorem dX12_compile_117 : decode cX12_compile 117 = .ok (.if_icmp .ge 33, 3) := by decide +kernel
theorem dX12_compile_120 : decode cX12_compile 120 = .ok (.aload_n 0, 1) := by decide +kernel
theorem dX12_compile_121 : decode cX12_compile 121 = .ok (.getfield 30, 3) := by decide +kernel
theorem dX12_compile_124 : decode cX12_compile 124 = .ok (.iload_n 1, 1) := by decide +kernel
theorem dX12_compile_125 : decode cX12_compile 125 = .ok (.aload_n 0, 1) := by decide +kernel
theorem dX12_compile_126 : decode cX12_compile 126 = .ok (.getfield 120, 3) := by decide +kernel
theorem dX12_compile_129 : decode cX12_compile 129 = .ok (.iload_n 1, 1) := by decide +kernel
theorem dX12_compile_130 : decode cX12_compile 130 = .ok (.iaload, 1) := by decide +kernel
theorem dX12_compile_131 : decode cX12_compile 131 = .ok (.iastore, 1) := by decide +kernel
theorem dX12_compile_132 : decode cX12_compile 132 = .ok (.aload_n 0, 1) := by decide +kernel
theorem dX12_compile_133 : decode cX12_compile 133 = .ok (.getfield 33, 3) := by decide +kernel
theorem dX12_compile_136 : decode cX12_compile 136 = .ok (.iload_n 1, 1) := by decide +kernel
theorem dX12_compile_137 : decode cX12_compile 137 = .ok (.aload_n 0, 1) := by decide +kernel
theorem dX12_compile_138 : decode cX12_compile 138 = .ok (.getfield 123, 3) := by decide +kernel
theorem dX12_compile_141 : decode cX12_compile 141 = .ok (.iload_n 1, 1) := by decide +kernel
theorem dX12_compile_142 : decode cX12_compile 142 = .ok (.iaload, 1) := by decide +kernel
theorem dX12_compile_143 : decode cX12_compile 143 = .ok (.iastore, 1) := by decide +kernel
theorem dX12_compile_144 : decode cX12_compile 144 = .ok (.iinc 1 1, 3) := by decide +kernel
theorem dX12_compile_147 : decode cX12_compile 147 = .ok (.goto (-35), 3) := by decide +kernel
theorem dX12_compile_150 : decode cX12_compile 150 = .ok (.iconst 0, 1) := by decide +kernel
theorem dX12_compile_151 : decode cX12_compile 151 = .ok (.istore_n 1, 1) := by decide +kernel
theorem dX12_compile_152 : decode cX12_compile 152 = .ok (.iload_n 1, 1) := by decide +kernel
theorem dX12_compile_153 : decode cX12_compile 153 = .ok (.bipush 26, 2) := by decide +kernel
theorem dX12_compile_155 : decode cX12_compile 155 = .ok (.if_icmp .ge 61, 3) := by decide +kernel
theorem dX12_compile_158 : decode cX12_compile 158 = .ok (.aload_n 0, 1) := by decide +kernel
theorem dX12_compile_159 : decode cX12_compile 159 = .ok (.getfield 36, 3) := by decide +kernel
theorem dX12_compile_162 : decode cX12_compile 162 = .ok (.iload_n 1, 1) := by decide +kernel
theorem dX12_compile_163 : decode cX12_compile 163 = .ok (.aload_n 0, 1) := by decide +kernel
theorem dX12_compile_164 : decode cX12_compile 164 = .ok (.getfield 81, 3) := by decide +kernel
theorem dX12_compile_167 : decode cX12_compile 167 = .ok (.iload_n 1, 1) := by decide +kernel
theorem dX12_compile_168 : decode cX12_compile 168 = .ok (.iaload, 1) := by decide +kernel
theorem dX12_compile_169 : decode cX12_compile 169 = .ok (.iconst 2, 1) := by decide +kernel
theorem dX12_compile_170 : decode cX12_compile 170 = .ok (.if_icmp .ne 12, 3) := by decide +kernel
theorem dX12_compile_173 : decode cX12_compile 173 = .ok (.aload_n 0, 1) := by decide +kernel
theorem dX12_compile_174 : decode cX12_compile 174 = .ok (.getfield 84, 3) := by decide +kernel
theorem dX12_compile_177 : decode cX12_compile 177 = .ok (.iload_n 1, 1) := by decide +kernel
theorem dX12_compile_178 : decode cX12_compile 178 = .ok (.iaload, 1) := by decide +kernel
theorem dX12_compile_179 : decode cX12_compile 179 = .ok (.goto 4, 3) := by decide +kernel
theorem dX12_compile_182 : decode cX12_compile 182 = .ok (.iconst (-1), 1) := by decide +kernel
theorem dX12_compile_183 : decode cX12_compile 183 = .ok (.iastore, 1) := by decide +kernel
theorem dX12_compile_184 : decode cX12_compile 184 = .ok (.aload_n 0, 1) := by decide +kernel
theorem dX12_compile_185 : decode cX12_compile 185 = .ok (.getfield 39, 3) := by decide +kernel
theorem dX12_compile_188 : decode cX12_compile 188 = .ok (.iload_n 1, 1) := by decide +kernel
theorem dX12_compile_189 : decode cX12_compile 189 = .ok (.aload_n 0, 1) := by decide +kernel
theorem dX12_compile_190 : decode cX12_compile 190 = .ok (.getfield 81, 3) := by decide +kernel
theorem dX12_compile_193 : decode cX12_compile 193 = .ok (.iload_n 1, 1) := by decide +kernel
theorem dX12_compile_194 : decode cX12_compile 194 = .ok (.iaload, 1) := by decide +kernel
theorem dX12_compile_195 : decode cX12_compile 195 = .ok (.iconst 3, 1) := by decide +kernel
theorem dX12_compile_196 : decode cX12_compile 196 = .ok (.if_icmp .ne 12, 3) := by decide +kernel
theorem dX12_compile_199 : decode cX12_compile 199 = .ok (.aload_n 0, 1) := by decide +kernel
theorem dX12_compile_200 : decode cX12_compile 200 = .ok (.getfield 84, 3) := by decide +kernel
theorem dX12_compile_203 : decode cX12_compile 203 = .ok (.iload_n 1, 1) := by decide +kernel
theorem dX12_compile_204 : decode cX12_compile 204 = .ok (.iaload, 1) := by decide +kernel
theorem dX12_compile_205 : decode cX12_compile 205 = .ok (.goto 4, 3) := by decide +kernel
theorem dX12_compile_208 : decode cX12_compile 208 = .ok (.iconst (-1), 1) := by decide +kernel
theorem dX12_compile_209 : decode cX12_compile 209 = .ok (.iastore, 1) := by decide +kernel
theorem dX12_compile_210 : decode cX12_compile 210 = .ok (.iinc 1 1, 3) := by decide +kernel
theorem dX12_compile_213 : decode cX12_compile 213 = .ok (.goto (-61), 3) := by decide +kernel
theorem dX12_compile_216 : decode cX12_compile 216 = .ok (.aload_n 0, 1) := by decide +kernel
theorem dX12_compile_217 : decode cX12_compile 217 = .ok (.iconst 1, 1) := by decide +kernel
theorem dX12_compile_218 : decode cX12_compile 218 = .ok (.putfield 332, 3) := by decide +kernel
theorem dX12_compile_221 : decode cX12_compile 221 = .ok (.aload_n 0, 1) := by decide +kernel
theorem dX12_compile_222 : decode cX12_compile 222 = .ok (.aload_n 0, 1) := by decide +kernel
theorem dX12_compile_223 : decode cX12_compile 223 = .ok (.getfield 308, 3) := by decide +kernel
theorem dX12_compile_226 : decode cX12_compile 226 = .ok (.putfield 335, 3) := by decide +kernel
theorem dX12_compile_229 : decode cX12_compile 229 = .ok (.aload_n 0, 1) := by decide +kernel
theorem dX12_compile_230 : decode cX12_compile 230 = .ok (.iconst 0, 1) := by decide +kernel
theorem dX12_compile_231 : decode cX12_compile 231 = .ok (.putfield 409, 3) := by decide +kernel
theorem dX12_compile_234 : decode cX12_compile 234 = .ok (.aload_n 0, 1) := by decide +kernel
theorem dX12_compile_235 : decode cX12_compile 235 = .ok (.iconst 0, 1) := by decide +kernel
theorem dX12_compile_236 : decode cX12_compile 236 = .ok (.putfield 412, 3) := by decide +kernel
theorem dX12_compile_239 : decode cX12_compile 239 = .ok (.aload_n 0, 1) := by decide +kernel
theorem dX12_compile_240 : decode cX12_compile 240 = .ok (.getfield 406, 3) := by decide +kernel
theorem dX12_compile_243 : decode cX12_compile 243 = .ok (.ireturn, 1) := by decide +kernel
theorem dX12_changed_0 : decode cX12_changed 0 = .ok (.aload_n 0, 1) := by decide +kernel
theorem dX12_changed_1 : decode cX12_changed 1 = .ok (.iconst 0, 1) := by decide +kernel
theorem dX12_changed_2 : decode cX12_changed 2 = .ok (.putfield 332, 3) := by decide +kernel
theorem dX12_changed_5 : decode cX12_changed 5 = .ok (.aload_n 0, 1) := by decide +kernel
theorem dX12_changed_6 : decode cX12_changed 6 = .ok (.iconst 0, 1) := by decide +kernel
theorem dX12_changed_7 : decode cX12_changed 7 = .ok (.putfield 409, 3) := by decide +kernel
theorem dX12_changed_10 : decode cX12_changed 10 = .ok (.aload_n 0, 1) := by decide +kernel
theorem dX12_changed_11 : decode cX12_changed 11 = .ok (.iconst 0, 1) := by decide +kernel
theorem dX12_changed_12 : decode cX12_changed 12 = .ok (.putfield 412, 3) := by decide +kernel
theorem dX12_changed_15 : decode cX12_changed 15 = .ok (.return_, 1) := by decide +kernel
theorem dX12_code_0 : decode cX12_code 0 = .ok (.aload_n 0, 1) := by decide +kernel
theorem dX12_code_1 : decode cX12_code 1 = .ok (.iconst 0, 1) := by decide +kernel
theorem dX12_code_2 : decode cX12_code 2 = .ok (.putfield 183, 3) := by decide +kernel
theorem dX12_code_5 : decode cX12_code 5 = .ok (.aload_n 0, 1) := by decide +kernel
theorem dX12_code_6 : decode cX12_code 6 = .ok (.iload_n 1, 1) := by decide +kernel
theorem dX12_code_7 : decode cX12_code 7 = .ok (.bipush 16, 2) := by decide +kernel
theorem dX12_code_9 : decode cX12_code 9 = .ok (.invokevirtual 186, 3) := by decide +kernel
theorem dX12_code_12 : decode cX12_code 12 = .ok (.ifCond .eq 9, 3) := by decide +kernel
theorem dX12_code_15 : decode cX12_code 15 = .ok (.aload_n 0, 1) := by decide +kernel
theorem dX12_code_16 : decode cX12_code 16 = .ok (.iconst 1, 1) := by decide +kernel
theorem dX12_code_17 : decode cX12_code 17 = .ok (.invokevirtual 190, 3) := by decide +kernel
theorem dX12_code_20 : decode cX12_code 20 = .ok (.ireturn, 1) := by decide +kernel
theorem dX12_code_21 : decode cX12_code 21 = .ok (.aload_n 0, 1) := by decide +kernel
theorem dX12_code_22 : decode cX12_code 22 = .ok (.getfield 406, 3) := by decide +kernel
theorem dX12_code_25 : decode cX12_code 25 = .ok (.bipush 64, 2) := by decide +kernel
theorem dX12_code_27 : decode cX12_code 27 = .ok (.if_icmp .ne 9, 3) := by decide +kernel
theorem dX12_code_30 : decode cX12_code 30 = .ok (.aload_n 0, 1) := by decide +kernel
theorem dX12_code_31 : decode cX12_code 31 = .ok (.iconst 2, 1) := by decide +kernel
theorem dX12_code_32 : decode cX12_code 32 = .ok (.invokevirtual 190, 3) := by decide +kernel
theorem dX12_code_35 : decode cX12_code 35 = .ok (.ireturn, 1) := by decide +kernel
theorem dX12_code_36 : decode cX12_code 36 = .ok (.aload_n 0, 1) := by decide +kernel
theorem dX12_code_37 : decode cX12_code 37 = .ok (.getfield 30, 3) := by decide +kernel
theorem dX12_code_40 : decode cX12_code 40 = .ok (.aload_n 0, 1) := by decide +kernel
theorem dX12_code_41 : decode cX12_code 41 = .ok (.getfield 406, 3) := by decide +kernel
theorem dX12_code_44 : decode cX12_code 44 = .ok (.iload_n 1, 1) := by decide +kernel
theorem dX12_code_45 : decode cX12_code 45 = .ok (.iastore, 1) := by decide +kernel
theorem dX12_code_46 : decode cX12_code 46 = .ok (.aload_n 0, 1) := by decide +kernel
theorem dX12_code_47 : decode cX12_code 47 = .ok (.getfield 33, 3) := by decide +kernel
theorem dX12_code_50 : decode cX12_code 50 = .ok (.aload_n 0, 1) := by decide +kernel
theorem dX12_code_51 : decode cX12_code 51 = .ok (.getfield 406, 3) := by decide +kernel
theorem dX12_code_54 : decode cX12_code 54 = .ok (.iload_n 2, 1) := by decide +kernel
theorem dX12_code_55 : decode cX12_code 55 = .ok (.iastore, 1) := by decide +kernel
theorem dX12_code_56 : decode cX12_code 56 = .ok (.aload_n 0, 1) := by decide +kernel
theorem dX12_code_57 : decode cX12_code 57 = .ok (.dup, 1) := by decide +kernel
theorem dX12_code_58 : decode cX12_code 58 = .ok (.getfield 406, 3) := by decide +kernel
theorem dX12_code_61 : decode cX12_code 61 = .ok (.iconst 1, 1) := by decide +kernel
theorem dX12_code_62 : decode cX12_code 62 = .ok (.iadd, 1) := by decide +kernel
theorem dX12_code_63 : decode cX12_code 63 = .ok (.putfield 406, 3) := by decide +kernel
theorem dX12_code_66 : decode cX12_code 66 = .ok (.aload_n 0, 1) := by decide +kernel
theorem dX12_code_67 : decode cX12_code 67 = .ok (.invokevirtual 415, 3) := by decide +kernel
theorem dX12_code_70 : decode cX12_code 70 = .ok (.aload_n 0, 1) := by decide +kernel
theorem dX12_code_71 : decode cX12_code 71 = .ok (.getfield 406, 3) := by decide +kernel
theorem dX12_code_74 : decode cX12_code 74 = .ok (.iconst 1, 1) := by decide +kernel
theorem dX12_code_75 : decode cX12_code 75 = .ok (.isub, 1) := by decide +kernel
theorem dX12_code_76 : decode cX12_code 76 = .ok (.ireturn, 1) := by decide +kernel
theorem dX12_fix_0 : decode cX12_fix 0 = .ok (.aload_n 0, 1) := by decide +kernel
theorem dX12_fix_1 : decode cX12_fix 1 = .ok (.iconst 0, 1) := by decide +kernel
theorem dX12_fix_2 : decode cX12_fix 2 = .ok (.putfield 183, 3) := by decide +kernel
theorem dX12_fix_5 : decode cX12_fix 5 = .ok (.aload_n 0, 1) := by decide +kernel
theorem dX12_fix_6 : decode cX12_fix 6 = .ok (.iload_n 1, 1) := by decide +kernel
theorem dX12_fix_7 : decode cX12_fix 7 = .ok (.bipush 26, 2) := by decide +kernel
theorem dX12_fix_9 : decode cX12_fix 9 = .ok (.invokevirtual 186, 3) := by decide +kernel
theorem dX12_fix_12 : decode cX12_fix 12 = .ok (.ifCond .ne 16, 3) := by decide +kernel
theorem dX12_fix_15 : decode cX12_fix 15 = .ok (.iload_n 3, 1) := by decide +kernel
theorem dX12_fix_16 : decode cX12_fix 16 = .ok (.iconst (-1), 1) := by decide +kernel
theorem dX12_fix_17 : decode cX12_fix 17 = .ok (.if_icmp .lt 11, 3) := by decide +kernel
theorem dX12_fix_20 : decode cX12_fix 20 = .ok (.iload_n 3, 1) := by decide +kernel
theorem dX12_fix_21 : decode cX12_fix 21 = .ok (.aload_n 0, 1) := by decide +kernel
theorem dX12_fix_22 : decode cX12_fix 22 = .ok (.getfield 180, 3) := by decide +kernel
theorem dX12_fix_25 : decode cX12_fix 25 = .ok (.if_icmp .lt 9, 3) := by decide +kernel
theorem dX12_fix_28 : decode cX12_fix 28 = .ok (.aload_n 0, 1) := by decide +kernel
theorem dX12_fix_29 : decode cX12_fix 29 = .ok (.iconst 1, 1) := by decide +kernel
theorem dX12_fix_30 : decode cX12_fix 30 = .ok (.invokevirtual 190, 3) := by decide +kernel
theorem dX12_fix_33 : decode cX12_fix 33 = .ok (.ireturn, 1) := by decide +kernel
theorem dX12_fix_34 : decode cX12_fix 34 = .ok (.iload_n 2, 1) := by decide +kernel
theorem dX12_fix_35 : decode cX12_fix 35 = .ok (.ifCond .eq 12, 3) := by decide +kernel
theorem dX12_fix_38 : decode cX12_fix 38 = .ok (.aload_n 0, 1) := by decide +kernel
theorem dX12_fix_39 : decode cX12_fix 39 = .ok (.getfield 39, 3) := by decide +kernel
theorem dX12_fix_42 : decode cX12_fix 42 = .ok (.iload_n 1, 1) := by decide +kernel
theorem dX12_fix_43 : decode cX12_fix 43 = .ok (.iaload, 1) := by decide +kernel
theorem dX12_fix_44 : decode cX12_fix 44 = .ok (.goto 9, 3) := by decide +kernel
theorem dX12_fix_47 : decode cX12_fix 47 = .ok (.aload_n 0, 1) := by decide +kernel
theorem dX12_fix_48 : decode cX12_fix 48 = .ok (.getfield 36, 3) := by decide +kernel
theorem dX12_fix_51 : decode cX12_fix 51 = .ok (.iload_n 1, 1) := by decide +kernel
theorem dX12_fix_52 : decode cX12_fix 52 = .ok (.iaload, 1) := by decide +kernel
theorem dX12_fix_53 : decode cX12_fix 53 = .ok (.istore 4, 2) := by decide +kernel
theorem dX12_fix_55 : decode cX12_fix 55 = .ok (.iload_n 2, 1) := by decide +kernel
theorem dX12_fix_56 : decode cX12_fix 56 = .ok (.ifCond .eq 13, 3) := by decide +kernel
theorem dX12_fix_59 : decode cX12_fix 59 = .ok (.aload_n 0, 1) := by decide +kernel
theorem dX12_fix_60 : decode cX12_fix 60 = .ok (.getfield 39, 3) := by decide +kernel
theorem dX12_fix_63 : decode cX12_fix 63 = .ok (.iload_n 1, 1) := by decide +kernel
theorem dX12_fix_64 : decode cX12_fix 64 = .ok (.iload_n 3, 1) := by decide +kernel
theorem dX12_fix_65 : decode cX12_fix 65 = .ok (.iastore, 1) := by decide +kernel
theorem dX12_fix_66 : decode cX12_fix 66 = .ok (.goto 10, 3) := by decide +kernel
theorem dX12_fix_69 : decode cX12_fix 69 = .ok (.aload_n 0, 1) := by decide +kernel
theorem dX12_fix_70 : decode cX12_fix 70 = .ok (.getfield 36, 3) := by decide +kernel
theorem dX12_fix_73 : decode cX12_fix 73 = .ok (.iload_n 1, 1) := by decide +kernel
theorem dX12_fix_74 : decode cX12_fix 74 = .ok (.iload_n 3, 1) := by decide +kernel
theorem dX12_fix_75 : decode cX12_fix 75 = .ok (.iastore, 1) := by decide +kernel
theorem dX12_fix_76 : decode cX12_fix 76 = .ok (.aload_n 0, 1) := by decide +kernel
theorem dX12_fix_77 : decode cX12_fix 77 = .ok (.invokevirtual 415, 3) := by decide +kernel
theorem dX12_fix_80 : decode cX12_fix 80 = .ok (.iload 4, 2) := by decide +kernel
theorem dX12_fix_82 : decode cX12_fix 82 = .ok (.ireturn, 1) := by decide +kernel
theorem dX12_clear_0 : decode cX12_clear 0 = .ok (.aload_n 0, 1) := by decide +kernel
theorem dX12_clear_1 : decode cX12_clear 1 = .ok (.iconst 0, 1) := by decide +kernel
theorem dX12_clear_2 : decode cX12_clear 2 = .ok (.putfield 183, 3) := by decide +kernel
theorem dX12_clear_5 : decode cX12_clear 5 = .ok (.aload_n 0, 1) := by decide +kernel
theorem dX12_clear_6 : decode cX12_clear 6 = .ok (.getfield 406, 3) := by decide +kernel
theorem dX12_clear_9 : decode cX12_clear 9 = .ok (.istore_n 1, 1) := by decide +kernel
theorem dX12_clear_10 : decode cX12_clear 10 = .ok (.aload_n 0, 1) := by decide +kernel
theorem dX12_clear_11 : decode cX12_clear 11 = .ok (.iconst 0, 1) := by decide +kernel
theorem dX12_clear_12 : decode cX12_clear 12 = .ok (.putfield 406, 3) := by decide +kernel
theorem dX12_clear_15 : decode cX12_clear 15 = .ok (.iconst 0, 1) := by decide +kernel
theorem dX12_clear_16 : decode cX12_clear 16 = .ok (.istore_n 2, 1) := by decide +kernel
theorem dX12_clear_17 : decode cX12_clear 17 = .ok (.iload_n 2, 1) := by decide +kernel
theorem dX12_clear_18 : decode cX12_clear 18 = .ok (.bipush 26, 2) := by decide +kernel
theorem dX12_clear_20 : decode cX12_clear 20 = .ok (.if_icmp .ge 23, 3) := by decide +kernel
theorem dX12_clear_23 : decode cX12_clear 23 = .ok (.aload_n 0, 1) := by decide +kernel
theorem dX12_clear_24 : decode cX12_clear 24 = .ok (.getfield 36, 3) := by decide +kernel
theorem dX12_clear_27 : decode cX12_clear 27 = .ok (.iload_n 2, 1) := by decide +kernel
theorem dX12_clear_28 : decode cX12_clear 28 = .ok (.iconst (-1), 1) := by decide +kernel
theorem dX12_clear_29 : decode cX12_clear 29 = .ok (.iastore, 1) := by decide +kernel
theorem dX12_clear_30 : decode cX12_clear 30 = .ok (.aload_n 0, 1) := by decide +kernel
theorem dX12_clear_31 : decode cX12_clear 31 = .ok (.getfield 39, 3) := by decide +kernel
theorem dX12_clear_34 : decode cX12_clear 34 = .ok (.iload_n 2, 1) := by decide +kernel
theorem dX12_clear_35 : decode cX12_clear 35 = .ok (.iconst (-1), 1) := by decide +kernel
theorem dX12_clear_36 : decode cX12_clear 36 = .ok (.iastore, 1) := by decide +kernel
theorem dX12_clear_37 : decode cX12_clear 37 = .ok (.iinc 2 1, 3) := by decide +kernel
theorem dX12_clear_40 : decode cX12_clear 40 = .ok (.goto (-23), 3) := by decide +kernel
theorem dX12_clear_43 : decode cX12_clear 43 = .ok (.aload_n 0, 1) := by decide +kernel
theorem dX12_clear_44 : decode cX12_clear 44 = .ok (.invokevirtual 415, 3) := by decide +kernel
theorem dX12_clear_47 : decode cX12_clear 47 = .ok (.iload_n 1, 1) := by decide +kernel
theorem dX12_clear_48 : decode cX12_clear 48 = .ok (.ireturn, 1) := by decide +kernel
theorem dX12_takes_0 : decode cX12_takes 0 = .ok (.iload_n 1, 1) := by decide +kernel
theorem dX12_takes_1 : decode cX12_takes 1 = .ok (.iconst 4, 1) := by decide +kernel
theorem dX12_takes_2 : decode cX12_takes 2 = .ok (.if_icmp .lt 11, 3) := by decide +kernel
theorem dX12_takes_5 : decode cX12_takes 5 = .ok (.iload_n 1, 1) := by decide +kernel
theorem dX12_takes_6 : decode cX12_takes 6 = .ok (.bipush 10, 2) := by decide +kernel
theorem dX12_takes_8 : decode cX12_takes 8 = .ok (.if_icmp .gt 5, 3) := by decide +kernel
theorem dX12_takes_11 : decode cX12_takes 11 = .ok (.iconst 2, 1) := by decide +kernel
theorem dX12_takes_12 : decode cX12_takes 12 = .ok (.ireturn, 1) := by decide +kernel
theorem dX12_takes_13 : decode cX12_takes 13 = .ok (.iload_n 1, 1) := by decide +kernel
theorem dX12_takes_14 : decode cX12_takes 14 = .ok (.iconst 2, 1) := by decide +kernel
theorem dX12_takes_15 : decode cX12_takes 15 = .ok (.if_icmp .eq 20, 3) := by decide +kernel
theorem dX12_takes_18 : decode cX12_takes 18 = .ok (.iload_n 1, 1) := by decide +kernel
theorem dX12_takes_19 : decode cX12_takes 19 = .ok (.iconst 3, 1) := by decide +kernel
theorem dX12_takes_20 : decode cX12_takes 20 = .ok (.if_icmp .eq 15, 3) := by decide +kernel
theorem dX12_takes_23 : decode cX12_takes 23 = .ok (.iload_n 1, 1) := by decide +kernel
theorem dX12_takes_24 : decode cX12_takes 24 = .ok (.bipush 11, 2) := by decide +kernel
theorem dX12_takes_26 : decode cX12_takes 26 = .ok (.if_icmp .eq 9, 3) := by decide +kernel
theorem dX12_takes_29 : decode cX12_takes 29 = .ok (.iload_n 1, 1) := by decide +kernel
theorem dX12_takes_30 : decode cX12_takes 30 = .ok (.bipush 14, 2) := by decide +kernel
theorem dX12_takes_32 : decode cX12_takes 32 = .ok (.if_icmp .ne 7, 3) := by decide +kernel
theorem dX12_takes_35 : decode cX12_takes 35 = .ok (.iconst 1, 1) := by decide +kernel
theorem dX12_takes_36 : decode cX12_takes 36 = .ok (.goto 4, 3) := by decide +kernel
theorem dX12_takes_39 : decode cX12_takes 39 = .ok (.iconst 0, 1) := by decide +kernel
theorem dX12_takes_40 : decode cX12_takes 40 = .ok (.ireturn, 1) := by decide +kernel
theorem dX12_puts_0 : decode cX12_puts 0 = .ok (.iload_n 1, 1) := by decide +kernel
theorem dX12_puts_1 : decode cX12_puts 1 = .ok (.iconst 2, 1) := by decide +kernel
theorem dX12_puts_2 : decode cX12_puts 2 = .ok (.if_icmp .lt 25, 3) := by decide +kernel
theorem dX12_puts_5 : decode cX12_puts 5 = .ok (.iload_n 1, 1) := by decide +kernel
theorem dX12_puts_6 : decode cX12_puts 6 = .ok (.iconst 3, 1) := by decide +kernel
theorem dX12_puts_7 : decode cX12_puts 7 = .ok (.if_icmp .eq 20, 3) := by decide +kernel
theorem dX12_puts_10 : decode cX12_puts 10 = .ok (.iload_n 1, 1) := by decide +kernel
theorem dX12_puts_11 : decode cX12_puts 11 = .ok (.iconst 5, 1) := by decide +kernel
theorem dX12_puts_12 : decode cX12_puts 12 = .ok (.if_icmp .lt 9, 3) := by decide +kernel
theorem dX12_puts_15 : decode cX12_puts 15 = .ok (.iload_n 1, 1) := by decide +kernel
theorem dX12_puts_16 : decode cX12_puts 16 = .ok (.bipush 10, 2) := by decide +kernel
theorem dX12_puts_18 : decode cX12_puts 18 = .ok (.if_icmp .le 9, 3) := by decide +kernel
theorem dX12_puts_21 : decode cX12_puts 21 = .ok (.iload_n 1, 1) := by decide +kernel
theorem dX12_puts_22 : decode cX12_puts 22 = .ok (.bipush 13, 2) := by decide +kernel
theorem dX12_puts_24 : decode cX12_puts 24 = .ok (.if_icmp .ne 7, 3) := by decide +kernel
theorem dX12_puts_27 : decode cX12_puts 27 = .ok (.iconst 1, 1) := by decide +kernel
theorem dX12_puts_28 : decode cX12_puts 28 = .ok (.goto 4, 3) := by decide +kernel
theorem dX12_puts_31 : decode cX12_puts 31 = .ok (.iconst 0, 1) := by decide +kernel
theorem dX12_puts_32 : decode cX12_puts 32 = .ok (.ireturn, 1) := by decide +kernel
theorem dX12_goodX_0 : decode cX12_goodX 0 = .ok (.aload_n 0, 1) := by decide +kernel
theorem dX12_goodX_1 : decode cX12_goodX 1 = .ok (.getfield 30, 3) := by decide +kernel
theorem dX12_goodX_4 : decode cX12_goodX 4 = .ok (.iload_n 1, 1) := by decide +kernel
theorem dX12_goodX_5 : decode cX12_goodX 5 = .ok (.iaload, 1) := by decide +kernel
theorem dX12_goodX_6 : decode cX12_goodX 6 = .ok (.istore_n 2, 1) := by decide +kernel
theorem dX12_goodX_7 : decode cX12_goodX 7 = .ok (.iload_n 2, 1) := by decide +kernel
theorem dX12_goodX_8 : decode cX12_goodX 8 = .ok (.iconst 1, 1) := by decide +kernel
theorem dX12_goodX_9 : decode cX12_goodX 9 = .ok (.if_icmp .lt 29, 3) := by decide +kernel
theorem dX12_goodX_12 : decode cX12_goodX 12 = .ok (.iload_n 2, 1) := by decide +kernel
theorem dX12_goodX_13 : decode cX12_goodX 13 = .ok (.iconst 4, 1) := by decide +kernel
theorem dX12_goodX_14 : decode cX12_goodX 14 = .ok (.if_icmp .gt 24, 3) := by decide +kernel
theorem dX12_goodX_17 : decode cX12_goodX 17 = .ok (.aload_n 0, 1) := by decide +kernel
theorem dX12_goodX_18 : decode cX12_goodX 18 = .ok (.aload_n 0, 1) := by decide +kernel
theorem dX12_goodX_19 : decode cX12_goodX 19 = .ok (.getfield 33, 3) := by decide +kernel
theorem dX12_goodX_22 : decode cX12_goodX 22 = .ok (.iload_n 1, 1) := by decide +kernel
theorem dX12_goodX_23 : decode cX12_goodX 23 = .ok (.iaload, 1) := by decide +kernel
theorem dX12_goodX_24 : decode cX12_goodX 24 = .ok (.bipush 26, 2) := by decide +kernel
theorem dX12_goodX_26 : decode cX12_goodX 26 = .ok (.invokevirtual 186, 3) := by decide +kernel
theorem dX12_goodX_29 : decode cX12_goodX 29 = .ok (.ifCond .ne 7, 3) := by decide +kernel
theorem dX12_goodX_32 : decode cX12_goodX 32 = .ok (.iconst 1, 1) := by decide +kernel
theorem dX12_goodX_33 : decode cX12_goodX 33 = .ok (.goto 4, 3) := by decide +kernel
theorem dX12_goodX_36 : decode cX12_goodX 36 = .ok (.iconst 0, 1) := by decide +kernel
theorem dX12_goodX_37 : decode cX12_goodX 37 = .ok (.ireturn, 1) := by decide +kernel
theorem dX12_goodX_38 : decode cX12_goodX 38 = .ok (.iload_n 2, 1) := by decide +kernel
theorem dX12_goodX_39 : decode cX12_goodX 39 = .ok (.bipush 13, 2) := by decide +kernel
theorem dX12_goodX_41 : decode cX12_goodX 41 = .ok (.if_icmp .eq 9, 3) := by decide +kernel
theorem dX12_goodX_44 : decode cX12_goodX 44 = .ok (.iload_n 2, 1) := by decide +kernel
theorem dX12_goodX_45 : decode cX12_goodX 45 = .ok (.bipush 14, 2) := by decide +kernel
theorem dX12_goodX_47 : decode cX12_goodX 47 = .ok (.if_icmp .ne 26, 3) := by decide +kernel
theorem dX12_goodX_50 : decode cX12_goodX 50 = .ok (.aload_n 0, 1) := by decide +kernel
theorem dX12_goodX_51 : decode cX12_goodX 51 = .ok (.aload_n 0, 1) := by decide +kernel
theorem dX12_goodX_52 : decode cX12_goodX 52 = .ok (.getfield 33, 3) := by decide +kernel
theorem dX12_goodX_55 : decode cX12_goodX 55 = .ok (.iload_n 1, 1) := by decide +kernel
theorem dX12_goodX_56 : decode cX12_goodX 56 = .ok (.iaload, 1) := by decide +kernel
theorem dX12_goodX_57 : decode cX12_goodX 57 = .ok (.aload_n 0, 1) := by decide +kernel
theorem dX12_goodX_58 : decode cX12_goodX 58 = .ok (.getfield 180, 3) := by decide +kernel
theorem dX12_goodX_61 : decode cX12_goodX 61 = .ok (.invokevirtual 186, 3) := by decide +kernel
theorem dX12_goodX_64 : decode cX12_goodX 64 = .ok (.ifCond .ne 7, 3) := by decide +kernel
theorem dX12_goodX_67 : decode cX12_goodX 67 = .ok (.iconst 1, 1) := by decide +kernel
theorem dX12_goodX_68 : decode cX12_goodX 68 = .ok (.goto 4, 3) := by decide +kernel
theorem dX12_goodX_71 : decode cX12_goodX 71 = .ok (.iconst 0, 1) := by decide +kernel
theorem dX12_goodX_72 : decode cX12_goodX 72 = .ok (.ireturn, 1) := by decide +kernel
theorem dX12_goodX_73 : decode cX12_goodX 73 = .ok (.iload_n 2, 1) := by decide +kernel
theorem dX12_goodX_74 : decode cX12_goodX 74 = .ok (.bipush 11, 2) := by decide +kernel
theorem dX12_goodX_76 : decode cX12_goodX 76 = .ok (.if_icmp .eq 9, 3) := by decide +kernel
theorem dX12_goodX_79 : decode cX12_goodX 79 = .ok (.iload_n 2, 1) := by decide +kernel
theorem dX12_goodX_80 : decode cX12_goodX 80 = .ok (.bipush 12, 2) := by decide +kernel
theorem dX12_goodX_82 : decode cX12_goodX 82 = .ok (.if_icmp .ne 20, 3) := by decide +kernel
theorem dX12_goodX_85 : decode cX12_goodX 85 = .ok (.aload_n 0, 1) := by decide +kernel
theorem dX12_goodX_86 : decode cX12_goodX 86 = .ok (.aload_n 0, 1) := by decide +kernel
theorem dX12_goodX_87 : decode cX12_goodX 87 = .ok (.getfield 33, 3) := by decide +kernel
theorem dX12_goodX_90 : decode cX12_goodX 90 = .ok (.iload_n 1, 1) := by decide +kernel
theorem dX12_goodX_91 : decode cX12_goodX 91 = .ok (.iaload, 1) := by decide +kernel
theorem dX12_goodX_92 : decode cX12_goodX 92 = .ok (.aload_n 0, 1) := by decide +kernel
theorem dX12_goodX_93 : decode cX12_goodX 93 = .ok (.getfield 406, 3) := by decide +kernel
theorem dX12_goodX_96 : decode cX12_goodX 96 = .ok (.invokevirtual 186, 3) := by decide +kernel
theorem dX12_goodX_99 : decode cX12_goodX 99 = .ok (.ifCond .ne 7, 3) := by decide +kernel
theorem dX12_goodX_102 : decode cX12_goodX 102 = .ok (.iconst 1, 1) := by decide +kernel
theorem dX12_goodX_103 : decode cX12_goodX 103 = .ok (.goto 4, 3) := by decide +kernel
theorem dX12_goodX_106 : decode cX12_goodX 106 = .ok (.iconst 0, 1) := by decide +kernel
theorem dX12_goodX_107 : decode cX12_goodX 107 = .ok (.ireturn, 1) := by decide +kernel
theorem dX12_nextOf_0 : decode cX12_nextOf 0 = .ok (.iload_n 2, 1) := by decide +kernel
theorem dX12_nextOf_1 : decode cX12_nextOf 1 = .ok (.ifCond .ne 33, 3) := by decide +kernel
theorem dX12_nextOf_4 : decode cX12_nextOf 4 = .ok (.aload_n 0, 1) := by decide +kernel
theorem dX12_nextOf_5 : decode cX12_nextOf 5 = .ok (.getfield 30, 3) := by decide +kernel
theorem dX12_nextOf_8 : decode cX12_nextOf 8 = .ok (.iload_n 1, 1) := by decide +kernel
theorem dX12_nextOf_9 : decode cX12_nextOf 9 = .ok (.iaload, 1) := by decide +kernel
theorem dX12_nextOf_10 : decode cX12_nextOf 10 = .ok (.bipush 12, 2) := by decide +kernel
theorem dX12_nextOf_12 : decode cX12_nextOf 12 = .ok (.if_icmp .eq 14, 3) := by decide +kernel
theorem dX12_nextOf_15 : decode cX12_nextOf 15 = .ok (.aload_n 0, 1) := by decide +kernel
theorem dX12_nextOf_16 : decode cX12_nextOf 16 = .ok (.getfield 30, 3) := by decide +kernel
theorem dX12_nextOf_19 : decode cX12_nextOf 19 = .ok (.iload_n 1, 1) := by decide +kernel
theorem dX12_nextOf_20 : decode cX12_nextOf 20 = .ok (.iaload, 1) := by decide +kernel
theorem dX12_nextOf_21 : decode cX12_nextOf 21 = .ok (.bipush 15, 2) := by decide +kernel
theorem dX12_nextOf_23 : decode cX12_nextOf 23 = .ok (.if_icmp .ne 7, 3) := by decide +kernel
theorem dX12_nextOf_26 : decode cX12_nextOf 26 = .ok (.iconst (-1), 1) := by decide +kernel
theorem dX12_nextOf_27 : decode cX12_nextOf 27 = .ok (.goto 6, 3) := by decide +kernel
theorem dX12_nextOf_30 : decode cX12_nextOf 30 = .ok (.iload_n 1, 1) := by decide +kernel
theorem dX12_nextOf_31 : decode cX12_nextOf 31 = .ok (.iconst 1, 1) := by decide +kernel
theorem dX12_nextOf_32 : decode cX12_nextOf 32 = .ok (.iadd, 1) := by decide +kernel
theorem dX12_nextOf_33 : decode cX12_nextOf 33 = .ok (.ireturn, 1) := by decide +kernel
theorem dX12_nextOf_34 : decode cX12_nextOf 34 = .ok (.aload_n 0, 1) := by decide +kernel
theorem dX12_nextOf_35 : decode cX12_nextOf 35 = .ok (.getfield 30, 3) := by decide +kernel
theorem dX12_nextOf_38 : decode cX12_nextOf 38 = .ok (.iload_n 1, 1) := by decide +kernel
theorem dX12_nextOf_39 : decode cX12_nextOf 39 = .ok (.iaload, 1) := by decide +kernel
theorem dX12_nextOf_40 : decode cX12_nextOf 40 = .ok (.bipush 11, 2) := by decide +kernel
theorem dX12_nextOf_42 : decode cX12_nextOf 42 = .ok (.if_icmp .eq 14, 3) := by decide +kernel
theorem dX12_nextOf_45 : decode cX12_nextOf 45 = .ok (.aload_n 0, 1) := by decide +kernel
theorem dX12_nextOf_46 : decode cX12_nextOf 46 = .ok (.getfield 30, 3) := by decide +kernel
theorem dX12_nextOf_49 : decode cX12_nextOf 49 = .ok (.iload_n 1, 1) := by decide +kernel
theorem dX12_nextOf_50 : decode cX12_nextOf 50 = .ok (.iaload, 1) := by decide +kernel
theorem dX12_nextOf_51 : decode cX12_nextOf 51 = .ok (.bipush 12, 2) := by decide +kernel
theorem dX12_nextOf_53 : decode cX12_nextOf 53 = .ok (.if_icmp .ne 12, 3) := by decide +kernel
theorem dX12_nextOf_56 : decode cX12_nextOf 56 = .ok (.aload_n 0, 1) := by decide +kernel
theorem dX12_nextOf_57 : decode cX12_nextOf 57 = .ok (.getfield 33, 3) := by decide +kernel
theorem dX12_nextOf_60 : decode cX12_nextOf 60 = .ok (.iload_n 1, 1) := by decide +kernel
theorem dX12_nextOf_61 : decode cX12_nextOf 61 = .ok (.iaload, 1) := by decide +kernel
theorem dX12_nextOf_62 : decode cX12_nextOf 62 = .ok (.goto 4, 3) := by decide +kernel
theorem dX12_nextOf_65 : decode cX12_nextOf 65 = .ok (.iconst (-1), 1) := by decide +kernel
theorem dX12_nextOf_66 : decode cX12_nextOf 66 = .ok (.ireturn, 1) := by decide +kernel
theorem dX12_look_0 : decode cX12_look 0 = .ok (.aload_n 0, 1) := by decide +kernel
theorem dX12_look_1 : decode cX12_look 1 = .ok (.getfield 132, 3) := by decide +kernel
theorem dX12_look_4 : decode cX12_look 4 = .ok (.iload_n 1, 1) := by decide +kernel
theorem dX12_look_5 : decode cX12_look 5 = .ok (.iconst 1, 1) := by decide +kernel
theorem dX12_look_6 : decode cX12_look 6 = .ok (.bastore, 1) := by decide +kernel
theorem dX12_look_7 : decode cX12_look 7 = .ok (.aload_n 0, 1) := by decide +kernel
theorem dX12_look_8 : decode cX12_look 8 = .ok (.getfield 129, 3) := by decide +kernel
theorem dX12_look_11 : decode cX12_look 11 = .ok (.iload_n 1, 1) := by decide +kernel
theorem dX12_look_12 : decode cX12_look 12 = .ok (.iaload, 1) := by decide +kernel
theorem dX12_look_13 : decode cX12_look 13 = .ok (.aload_n 0, 1) := by decide +kernel
theorem dX12_look_14 : decode cX12_look 14 = .ok (.aload_n 0, 1) := by decide +kernel
theorem dX12_look_15 : decode cX12_look 15 = .ok (.getfield 30, 3) := by decide +kernel
theorem dX12_look_18 : decode cX12_look 18 = .ok (.iload_n 1, 1) := by decide +kernel
theorem dX12_look_19 : decode cX12_look 19 = .ok (.iaload, 1) := by decide +kernel
theorem dX12_look_20 : decode cX12_look 20 = .ok (.invokevirtual 418, 3) := by decide +kernel
theorem dX12_look_23 : decode cX12_look 23 = .ok (.isub, 1) := by decide +kernel
theorem dX12_look_24 : decode cX12_look 24 = .ok (.istore_n 2, 1) := by decide +kernel
theorem dX12_look_25 : decode cX12_look 25 = .ok (.iload_n 2, 1) := by decide +kernel
theorem dX12_look_26 : decode cX12_look 26 = .ok (.ifCond .lt 20, 3) := by decide +kernel
theorem dX12_look_29 : decode cX12_look 29 = .ok (.iload_n 2, 1) := by decide +kernel
theorem dX12_look_30 : decode cX12_look 30 = .ok (.aload_n 0, 1) := by decide +kernel
theorem dX12_look_31 : decode cX12_look 31 = .ok (.aload_n 0, 1) := by decide +kernel
theorem dX12_look_32 : decode cX12_look 32 = .ok (.getfield 30, 3) := by decide +kernel
theorem dX12_look_35 : decode cX12_look 35 = .ok (.iload_n 1, 1) := by decide +kernel
theorem dX12_look_36 : decode cX12_look 36 = .ok (.iaload, 1) := by decide +kernel
theorem dX12_look_37 : decode cX12_look 37 = .ok (.invokevirtual 421, 3) := by decide +kernel
theorem dX12_look_40 : decode cX12_look 40 = .ok (.iadd, 1) := by decide +kernel
theorem dX12_look_41 : decode cX12_look 41 = .ok (.bipush 30, 2) := by decide +kernel
theorem dX12_look_43 : decode cX12_look 43 = .ok (.if_icmp .le 5, 3) := by decide +kernel
theorem dX12_look_46 : decode cX12_look 46 = .ok (.iconst 3, 1) := by decide +kernel
theorem dX12_look_47 : decode cX12_look 47 = .ok (.ireturn, 1) := by decide +kernel
theorem dX12_look_48 : decode cX12_look 48 = .ok (.iload_n 2, 1) := by decide +kernel
theorem dX12_look_49 : decode cX12_look 49 = .ok (.aload_n 0, 1) := by decide +kernel
theorem dX12_look_50 : decode cX12_look 50 = .ok (.aload_n 0, 1) := by decide +kernel
theorem dX12_look_51 : decode cX12_look 51 = .ok (.getfield 30, 3) := by decide +kernel
theorem dX12_look_54 : decode cX12_look 54 = .ok (.iload_n 1, 1) := by decide +kernel
theorem dX12_look_55 : decode cX12_look 55 = .ok (.iaload, 1) := by decide +kernel
theorem dX12_look_56 : decode cX12_look 56 = .ok (.invokevirtual 421, 3) := by decide +kernel
theorem dX12_look_59 : decode cX12_look 59 = .ok (.iadd, 1) := by decide +kernel
theorem dX12_look_60 : decode cX12_look 60 = .ok (.istore_n 2, 1) := by decide +kernel
theorem dX12_look_61 : decode cX12_look 61 = .ok (.aload_n 0, 1) := by decide +kernel
theorem dX12_look_62 : decode cX12_look 62 = .ok (.getfield 30, 3) := by decide +kernel
theorem dX12_look_65 : decode cX12_look 65 = .ok (.iload_n 1, 1) := by decide +kernel
theorem dX12_look_66 : decode cX12_look 66 = .ok (.iaload, 1) := by decide +kernel
theorem dX12_look_67 : decode cX12_look 67 = .ok (.bipush 11, 2) := by decide +kernel
theorem dX12_look_69 : decode cX12_look 69 = .ok (.if_icmp .eq 14, 3) := by decide +kernel
theorem dX12_look_72 : decode cX12_look 72 = .ok (.aload_n 0, 1) := by decide +kernel
theorem dX12_look_73 : decode cX12_look 73 = .ok (.getfield 30, 3) := by decide +kernel
theorem dX12_look_76 : decode cX12_look 76 = .ok (.iload_n 1, 1) := by decide +kernel
theorem dX12_look_77 : decode cX12_look 77 = .ok (.iaload, 1) := by decide +kernel
theorem dX12_look_78 : decode cX12_look 78 = .ok (.bipush 12, 2) := by decide +kernel
theorem dX12_look_80 : decode cX12_look 80 = .ok (.if_icmp .ne 9, 3) := by decide +kernel
theorem dX12_look_83 : decode cX12_look 83 = .ok (.iload_n 2, 1) := by decide +kernel
theorem dX12_look_84 : decode cX12_look 84 = .ok (.ifCond .le 5, 3) := by decide +kernel
theorem dX12_look_87 : decode cX12_look 87 = .ok (.iconst 4, 1) := by decide +kernel
theorem dX12_look_88 : decode cX12_look 88 = .ok (.ireturn, 1) := by decide +kernel
theorem dX12_look_89 : decode cX12_look 89 = .ok (.iconst 0, 1) := by decide +kernel
theorem dX12_look_90 : decode cX12_look 90 = .ok (.istore_n 3, 1) := by decide +kernel
theorem dX12_look_91 : decode cX12_look 91 = .ok (.iload_n 3, 1) := by decide +kernel
theorem dX12_look_92 : decode cX12_look 92 = .ok (.iconst 2, 1) := by decide +kernel
theorem dX12_look_93 : decode cX12_look 93 = .ok (.if_icmp .ge 56, 3) := by decide +kernel
theorem dX12_look_96 : decode cX12_look 96 = .ok (.aload_n 0, 1) := by decide +kernel
theorem dX12_look_97 : decode cX12_look 97 = .ok (.iload_n 1, 1) := by decide +kernel
theorem dX12_look_98 : decode cX12_look 98 = .ok (.iload_n 3, 1) := by decide +kernel
theorem dX12_look_99 : decode cX12_look 99 = .ok (.invokevirtual 424, 3) := by decide +kernel
theorem dX12_look_102 : decode cX12_look 102 = .ok (.istore 4, 2) := by decide +kernel
theorem dX12_look_104 : decode cX12_look 104 = .ok (.iload 4, 2) := by decide +kernel
theorem dX12_look_106 : decode cX12_look 106 = .ok (.ifCond .ge 6, 3) := by decide +kernel
theorem dX12_look_109 : decode cX12_look 109 = .ok (.goto 34, 3) := by decide +kernel
theorem dX12_look_112 : decode cX12_look 112 = .ok (.aload_n 0, 1) := by decide +kernel
theorem dX12_look_113 : decode cX12_look 113 = .ok (.getfield 129, 3) := by decide +kernel
theorem dX12_look_116 : decode cX12_look 116 = .ok (.iload 4, 2) := by decide +kernel
theorem dX12_look_118 : decode cX12_look 118 = .ok (.iaload, 1) := by decide +kernel
theorem dX12_look_119 : decode cX12_look 119 = .ok (.ifCond .lt 16, 3) := by decide +kernel
theorem dX12_look_122 : decode cX12_look 122 = .ok (.aload_n 0, 1) := by decide +kernel
theorem dX12_look_123 : decode cX12_look 123 = .ok (.getfield 129, 3) := by decide +kernel
theorem dX12_look_126 : decode cX12_look 126 = .ok (.iload 4, 2) := by decide +kernel
theorem dX12_look_128 : decode cX12_look 128 = .ok (.iaload, 1) := by decide +kernel
theorem dX12_look_129 : decode cX12_look 129 = .ok (.iload_n 2, 1) := by decide +kernel
theorem dX12_look_130 : decode cX12_look 130 = .ok (.if_icmp .eq 5, 3) := by decide +kernel
theorem dX12_look_133 : decode cX12_look 133 = .ok (.iconst 5, 1) := by decide +kernel
theorem dX12_look_134 : decode cX12_look 134 = .ok (.ireturn, 1) := by decide +kernel
theorem dX12_look_135 : decode cX12_look 135 = .ok (.aload_n 0, 1) := by decide +kernel
theorem dX12_look_136 : decode cX12_look 136 = .ok (.getfield 129, 3) := by decide +kernel
theorem dX12_look_139 : decode cX12_look 139 = .ok (.iload 4, 2) := by decide +kernel
theorem dX12_look_141 : decode cX12_look 141 = .ok (.iload_n 2, 1) := by decide +kernel
theorem dX12_look_142 : decode cX12_look 142 = .ok (.iastore, 1) := by decide +kernel
theorem dX12_look_143 : decode cX12_look 143 = .ok (.iinc 3 1, 3) := by decide +kernel
theorem dX12_look_146 : decode cX12_look 146 = .ok (.goto (-55), 3) := by decide +kernel
theorem dX12_look_149 : decode cX12_look 149 = .ok (.iconst 0, 1) := by decide +kernel
theorem dX12_look_150 : decode cX12_look 150 = .ok (.ireturn, 1) := by decide +kernel
theorem dX12_leastOpen_0 : decode cX12_leastOpen 0 = .ok (.iconst 0, 1) := by decide +kernel
theorem dX12_leastOpen_1 : decode cX12_leastOpen 1 = .ok (.istore_n 1, 1) := by decide +kernel
theorem dX12_leastOpen_2 : decode cX12_leastOpen 2 = .ok (.iload_n 1, 1) := by decide +kernel
theorem dX12_leastOpen_3 : decode cX12_leastOpen 3 = .ok (.aload_n 0, 1) := by decide +kernel
theorem dX12_leastOpen_4 : decode cX12_leastOpen 4 = .ok (.getfield 406, 3) := by decide +kernel
theorem dX12_leastOpen_7 : decode cX12_leastOpen 7 = .ok (.if_icmp .ge 29, 3) := by decide +kernel
theorem dX12_leastOpen_10 : decode cX12_leastOpen 10 = .ok (.aload_n 0, 1) := by decide +kernel
theorem dX12_leastOpen_11 : decode cX12_leastOpen 11 = .ok (.getfield 129, 3) := by decide +kernel
theorem dX12_leastOpen_14 : decode cX12_leastOpen 14 = .ok (.iload_n 1, 1) := by decide +kernel
theorem dX12_leastOpen_15 : decode cX12_leastOpen 15 = .ok (.iaload, 1) := by decide +kernel
theorem dX12_leastOpen_16 : decode cX12_leastOpen 16 = .ok (.ifCond .lt 14, 3) := by decide +kernel
theorem dX12_leastOpen_19 : decode cX12_leastOpen 19 = .ok (.aload_n 0, 1) := by decide +kernel
theorem dX12_leastOpen_20 : decode cX12_leastOpen 20 = .ok (.getfield 132, 3) := by decide +kernel
theorem dX12_leastOpen_23 : decode cX12_leastOpen 23 = .ok (.iload_n 1, 1) := by decide +kernel
theorem dX12_leastOpen_24 : decode cX12_leastOpen 24 = .ok (.baload, 1) := by decide +kernel
theorem dX12_leastOpen_25 : decode cX12_leastOpen 25 = .ok (.ifCond .ne 5, 3) := by decide +kernel
theorem dX12_leastOpen_28 : decode cX12_leastOpen 28 = .ok (.iload_n 1, 1) := by decide +kernel
theorem dX12_leastOpen_29 : decode cX12_leastOpen 29 = .ok (.ireturn, 1) := by decide +kernel
theorem dX12_leastOpen_30 : decode cX12_leastOpen 30 = .ok (.iinc 1 1, 3) := by decide +kernel
theorem dX12_leastOpen_33 : decode cX12_leastOpen 33 = .ok (.goto (-31), 3) := by decide +kernel
theorem dX12_leastOpen_36 : decode cX12_leastOpen 36 = .ok (.iconst (-1), 1) := by decide +kernel
theorem dX12_leastOpen_37 : decode cX12_leastOpen 37 = .ok (.ireturn, 1) := by decide +kernel
theorem dX12_reach_0 : decode cX12_reach 0 = .ok (.iconst 0, 1) := by decide +kernel
theorem dX12_reach_1 : decode cX12_reach 1 = .ok (.istore_n 3, 1) := by decide +kernel
theorem dX12_reach_2 : decode cX12_reach 2 = .ok (.iload_n 3, 1) := by decide +kernel
theorem dX12_reach_3 : decode cX12_reach 3 = .ok (.bipush 64, 2) := by decide +kernel
theorem dX12_reach_5 : decode cX12_reach 5 = .ok (.if_icmp .ge 16, 3) := by decide +kernel
theorem dX12_reach_8 : decode cX12_reach 8 = .ok (.aload_n 0, 1) := by decide +kernel
theorem dX12_reach_9 : decode cX12_reach 9 = .ok (.getfield 150, 3) := by decide +kernel
theorem dX12_reach_12 : decode cX12_reach 12 = .ok (.iload_n 3, 1) := by decide +kernel
theorem dX12_reach_13 : decode cX12_reach 13 = .ok (.iconst 0, 1) := by decide +kernel
theorem dX12_reach_14 : decode cX12_reach 14 = .ok (.bastore, 1) := by decide +kernel
theorem dX12_reach_15 : decode cX12_reach 15 = .ok (.iinc 3 1, 3) := by decide +kernel
theorem dX12_reach_18 : decode cX12_reach 18 = .ok (.goto (-16), 3) := by decide +kernel
theorem dX12_reach_21 : decode cX12_reach 21 = .ok (.iconst 1, 1) := by decide +kernel
theorem dX12_reach_22 : decode cX12_reach 22 = .ok (.istore_n 3, 1) := by decide +kernel
theorem dX12_reach_23 : decode cX12_reach 23 = .ok (.iconst 1, 1) := by decide +kernel
theorem dX12_reach_24 : decode cX12_reach 24 = .ok (.istore 4, 2) := by decide +kernel
theorem dX12_reach_26 : decode cX12_reach 26 = .ok (.iload 4, 2) := by decide +kernel
theorem dX12_reach_28 : decode cX12_reach 28 = .ok (.ifCond .eq 109, 3) := by decide +kernel
theorem dX12_reach_31 : decode cX12_reach 31 = .ok (.iconst 0, 1) := by decide +kernel
theorem dX12_reach_32 : decode cX12_reach 32 = .ok (.istore 4, 2) := by decide +kernel
theorem dX12_reach_34 : decode cX12_reach 34 = .ok (.iconst 0, 1) := by decide +kernel
theorem dX12_reach_35 : decode cX12_reach 35 = .ok (.istore 5, 2) := by decide +kernel
theorem dX12_reach_37 : decode cX12_reach 37 = .ok (.iload 5, 2) := by decide +kernel
theorem dX12_reach_39 : decode cX12_reach 39 = .ok (.aload_n 0, 1) := by decide +kernel
theorem dX12_reach_40 : decode cX12_reach 40 = .ok (.getfield 406, 3) := by decide +kernel
theorem dX12_reach_43 : decode cX12_reach 43 = .ok (.if_icmp .ge 89, 3) := by decide +kernel
theorem dX12_reach_46 : decode cX12_reach 46 = .ok (.aload_n 0, 1) := by decide +kernel
theorem dX12_reach_47 : decode cX12_reach 47 = .ok (.getfield 150, 3) := by decide +kernel
theorem dX12_reach_50 : decode cX12_reach 50 = .ok (.iload 5, 2) := by decide +kernel
theorem dX12_reach_52 : decode cX12_reach 52 = .ok (.baload, 1) := by decide +kernel
theorem dX12_reach_53 : decode cX12_reach 53 = .ok (.ifCond .ne 16, 3) := by decide +kernel
theorem dX12_reach_56 : decode cX12_reach 56 = .ok (.iload_n 3, 1) := by decide +kernel
theorem dX12_reach_57 : decode cX12_reach 57 = .ok (.ifCond .eq 69, 3) := by decide +kernel
theorem dX12_reach_60 : decode cX12_reach 60 = .ok (.iload 5, 2) := by decide +kernel
theorem dX12_reach_62 : decode cX12_reach 62 = .ok (.iload_n 1, 1) := by decide +kernel
theorem dX12_reach_63 : decode cX12_reach 63 = .ok (.if_icmp .eq 6, 3) := by decide +kernel
theorem dX12_reach_66 : decode cX12_reach 66 = .ok (.goto 60, 3) := by decide +kernel
theorem dX12_reach_69 : decode cX12_reach 69 = .ok (.iconst 0, 1) := by decide +kernel
theorem dX12_reach_70 : decode cX12_reach 70 = .ok (.istore 6, 2) := by decide +kernel
theorem dX12_reach_72 : decode cX12_reach 72 = .ok (.iload 6, 2) := by decide +kernel
theorem dX12_reach_74 : decode cX12_reach 74 = .ok (.iconst 2, 1) := by decide +kernel
theorem dX12_reach_75 : decode cX12_reach 75 = .ok (.if_icmp .ge 51, 3) := by decide +kernel
theorem dX12_reach_78 : decode cX12_reach 78 = .ok (.aload_n 0, 1) := by decide +kernel
theorem dX12_reach_79 : decode cX12_reach 79 = .ok (.iload 5, 2) := by decide +kernel
theorem dX12_reach_81 : decode cX12_reach 81 = .ok (.iload 6, 2) := by decide +kernel
theorem dX12_reach_83 : decode cX12_reach 83 = .ok (.invokevirtual 424, 3) := by decide +kernel
theorem dX12_reach_86 : decode cX12_reach 86 = .ok (.istore 7, 2) := by decide +kernel
theorem dX12_reach_88 : decode cX12_reach 88 = .ok (.iload 7, 2) := by decide +kernel
theorem dX12_reach_90 : decode cX12_reach 90 = .ok (.ifCond .lt 30, 3) := by decide +kernel
theorem dX12_reach_93 : decode cX12_reach 93 = .ok (.iload 7, 2) := by decide +kernel
theorem dX12_reach_95 : decode cX12_reach 95 = .ok (.iload_n 2, 1) := by decide +kernel
theorem dX12_reach_96 : decode cX12_reach 96 = .ok (.if_icmp .eq 24, 3) := by decide +kernel
theorem dX12_reach_99 : decode cX12_reach 99 = .ok (.aload_n 0, 1) := by decide +kernel
theorem dX12_reach_100 : decode cX12_reach 100 = .ok (.getfield 150, 3) := by decide +kernel
theorem dX12_reach_103 : decode cX12_reach 103 = .ok (.iload 7, 2) := by decide +kernel
theorem dX12_reach_105 : decode cX12_reach 105 = .ok (.baload, 1) := by decide +kernel
theorem dX12_reach_106 : decode cX12_reach 106 = .ok (.ifCond .ne 14, 3) := by decide +kernel
theorem dX12_reach_109 : decode cX12_reach 109 = .ok (.aload_n 0, 1) := by decide +kernel
theorem dX12_reach_110 : decode cX12_reach 110 = .ok (.getfield 150, 3) := by decide +kernel
theorem dX12_reach_113 : decode cX12_reach 113 = .ok (.iload 7, 2) := by decide +kernel
theorem dX12_reach_115 : decode cX12_reach 115 = .ok (.iconst 1, 1) := by decide +kernel
theorem dX12_reach_116 : decode cX12_reach 116 = .ok (.bastore, 1) := by decide +kernel
theorem dX12_reach_117 : decode cX12_reach 117 = .ok (.iconst 1, 1) := by decide +kernel
theorem dX12_reach_118 : decode cX12_reach 118 = .ok (.istore 4, 2) := by decide +kernel
theorem dX12_reach_120 : decode cX12_reach 120 = .ok (.iinc 6 1, 3) := by decide +kernel
theorem dX12_reach_123 : decode cX12_reach 123 = .ok (.goto (-51), 3) := by decide +kernel
theorem dX12_reach_126 : decode cX12_reach 126 = .ok (.iinc 5 1, 3) := by decide +kernel
theorem dX12_reach_129 : decode cX12_reach 129 = .ok (.goto (-92), 3) := by decide +kernel
theorem dX12_reach_132 : decode cX12_reach 132 = .ok (.iconst 0, 1) := by decide +kernel
theorem dX12_reach_133 : decode cX12_reach 133 = .ok (.istore_n 3, 1) := by decide +kernel
theorem dX12_reach_134 : decode cX12_reach 134 = .ok (.goto (-108), 3) := by decide +kernel
theorem dX12_reach_137 : decode cX12_reach 137 = .ok (.return_, 1) := by decide +kernel
theorem dX12_halts_0 : decode cX12_halts 0 = .ok (.iconst 0, 1) := by decide +kernel
theorem dX12_halts_1 : decode cX12_halts 1 = .ok (.istore_n 1, 1) := by decide +kernel
theorem dX12_halts_2 : decode cX12_halts 2 = .ok (.iload_n 1, 1) := by decide +kernel
theorem dX12_halts_3 : decode cX12_halts 3 = .ok (.aload_n 0, 1) := by decide +kernel
theorem dX12_halts_4 : decode cX12_halts 4 = .ok (.getfield 406, 3) := by decide +kernel
theorem dX12_halts_7 : decode cX12_halts 7 = .ok (.if_icmp .ge 31, 3) := by decide +kernel
theorem dX12_halts_10 : decode cX12_halts 10 = .ok (.aload_n 0, 1) := by decide +kernel
theorem dX12_halts_11 : decode cX12_halts 11 = .ok (.getfield 150, 3) := by decide +kernel
theorem dX12_halts_14 : decode cX12_halts 14 = .ok (.iload_n 1, 1) := by decide +kernel
theorem dX12_halts_15 : decode cX12_halts 15 = .ok (.baload, 1) := by decide +kernel
theorem dX12_halts_16 : decode cX12_halts 16 = .ok (.ifCond .eq 16, 3) := by decide +kernel
theorem dX12_halts_19 : decode cX12_halts 19 = .ok (.aload_n 0, 1) := by decide +kernel
theorem dX12_halts_20 : decode cX12_halts 20 = .ok (.getfield 30, 3) := by decide +kernel
theorem dX12_halts_23 : decode cX12_halts 23 = .ok (.iload_n 1, 1) := by decide +kernel
theorem dX12_halts_24 : decode cX12_halts 24 = .ok (.iaload, 1) := by decide +kernel
theorem dX12_halts_25 : decode cX12_halts 25 = .ok (.bipush 15, 2) := by decide +kernel
theorem dX12_halts_27 : decode cX12_halts 27 = .ok (.if_icmp .ne 5, 3) := by decide +kernel
theorem dX12_halts_30 : decode cX12_halts 30 = .ok (.iconst 1, 1) := by decide +kernel
theorem dX12_halts_31 : decode cX12_halts 31 = .ok (.ireturn, 1) := by decide +kernel
theorem dX12_halts_32 : decode cX12_halts 32 = .ok (.iinc 1 1, 3) := by decide +kernel
theorem dX12_halts_35 : decode cX12_halts 35 = .ok (.goto (-33), 3) := by decide +kernel
theorem dX12_halts_38 : decode cX12_halts 38 = .ok (.iconst 0, 1) := by decide +kernel
theorem dX12_halts_39 : decode cX12_halts 39 = .ok (.ireturn, 1) := by decide +kernel
theorem dX12_meeting_0 : decode cX12_meeting 0 = .ok (.aload_n 0, 1) := by decide +kernel
theorem dX12_meeting_1 : decode cX12_meeting 1 = .ok (.iload_n 1, 1) := by decide +kernel
theorem dX12_meeting_2 : decode cX12_meeting 2 = .ok (.iconst (-1), 1) := by decide +kernel
theorem dX12_meeting_3 : decode cX12_meeting 3 = .ok (.invokevirtual 427, 3) := by decide +kernel
theorem dX12_meeting_6 : decode cX12_meeting 6 = .ok (.aload_n 0, 1) := by decide +kernel
theorem dX12_meeting_7 : decode cX12_meeting 7 = .ok (.invokevirtual 430, 3) := by decide +kernel
theorem dX12_meeting_10 : decode cX12_meeting 10 = .ok (.ifCond .ne 5, 3) := by decide +kernel
theorem dX12_meeting_13 : decode cX12_meeting 13 = .ok (.iconst (-1), 1) := by decide +kernel
theorem dX12_meeting_14 : decode cX12_meeting 14 = .ok (.ireturn, 1) := by decide +kernel
theorem dX12_meeting_15 : decode cX12_meeting 15 = .ok (.iconst 0, 1) := by decide +kernel
theorem dX12_meeting_16 : decode cX12_meeting 16 = .ok (.istore_n 2, 1) := by decide +kernel
theorem dX12_meeting_17 : decode cX12_meeting 17 = .ok (.iload_n 2, 1) := by decide +kernel
theorem dX12_meeting_18 : decode cX12_meeting 18 = .ok (.aload_n 0, 1) := by decide +kernel
theorem dX12_meeting_19 : decode cX12_meeting 19 = .ok (.getfield 406, 3) := by decide +kernel
theorem dX12_meeting_22 : decode cX12_meeting 22 = .ok (.if_icmp .ge 38, 3) := by decide +kernel
theorem dX12_meeting_25 : decode cX12_meeting 25 = .ok (.aload_n 0, 1) := by decide +kernel
theorem dX12_meeting_26 : decode cX12_meeting 26 = .ok (.iload_n 1, 1) := by decide +kernel
theorem dX12_meeting_27 : decode cX12_meeting 27 = .ok (.iload_n 2, 1) := by decide +kernel
theorem dX12_meeting_28 : decode cX12_meeting 28 = .ok (.invokevirtual 427, 3) := by decide +kernel
theorem dX12_meeting_31 : decode cX12_meeting 31 = .ok (.aload_n 0, 1) := by decide +kernel
theorem dX12_meeting_32 : decode cX12_meeting 32 = .ok (.getfield 153, 3) := by decide +kernel
theorem dX12_meeting_35 : decode cX12_meeting 35 = .ok (.iload_n 2, 1) := by decide +kernel
theorem dX12_meeting_36 : decode cX12_meeting 36 = .ok (.iload_n 2, 1) := by decide +kernel
theorem dX12_meeting_37 : decode cX12_meeting 37 = .ok (.iload_n 1, 1) := by decide +kernel
theorem dX12_meeting_38 : decode cX12_meeting 38 = .ok (.if_icmp .eq 14, 3) := by decide +kernel
theorem dX12_meeting_41 : decode cX12_meeting 41 = .ok (.aload_n 0, 1) := by decide +kernel
theorem dX12_meeting_42 : decode cX12_meeting 42 = .ok (.invokevirtual 430, 3) := by decide +kernel
theorem dX12_meeting_45 : decode cX12_meeting 45 = .ok (.ifCond .ne 7, 3) := by decide +kernel
theorem dX12_meeting_48 : decode cX12_meeting 48 = .ok (.iconst 1, 1) := by decide +kernel
theorem dX12_meeting_49 : decode cX12_meeting 49 = .ok (.goto 4, 3) := by decide +kernel
theorem dX12_meeting_52 : decode cX12_meeting 52 = .ok (.iconst 0, 1) := by decide +kernel
theorem dX12_meeting_53 : decode cX12_meeting 53 = .ok (.bastore, 1) := by decide +kernel
theorem dX12_meeting_54 : decode cX12_meeting 54 = .ok (.iinc 2 1, 3) := by decide +kernel
theorem dX12_meeting_57 : decode cX12_meeting 57 = .ok (.goto (-40), 3) := by decide +kernel
theorem dX12_meeting_60 : decode cX12_meeting 60 = .ok (.iconst 0, 1) := by decide +kernel
theorem dX12_meeting_61 : decode cX12_meeting 61 = .ok (.istore_n 2, 1) := by decide +kernel
theorem dX12_meeting_62 : decode cX12_meeting 62 = .ok (.iload_n 2, 1) := by decide +kernel
theorem dX12_meeting_63 : decode cX12_meeting 63 = .ok (.aload_n 0, 1) := by decide +kernel
theorem dX12_meeting_64 : decode cX12_meeting 64 = .ok (.getfield 406, 3) := by decide +kernel
theorem dX12_meeting_67 : decode cX12_meeting 67 = .ok (.if_icmp .ge 81, 3) := by decide +kernel
theorem dX12_meeting_70 : decode cX12_meeting 70 = .ok (.aload_n 0, 1) := by decide +kernel
theorem dX12_meeting_71 : decode cX12_meeting 71 = .ok (.getfield 153, 3) := by decide +kernel
theorem dX12_meeting_74 : decode cX12_meeting 74 = .ok (.iload_n 2, 1) := by decide +kernel
theorem dX12_meeting_75 : decode cX12_meeting 75 = .ok (.baload, 1) := by decide +kernel
theorem dX12_meeting_76 : decode cX12_meeting 76 = .ok (.ifCond .ne 6, 3) := by decide +kernel
theorem dX12_meeting_79 : decode cX12_meeting 79 = .ok (.goto 63, 3) := by decide +kernel
theorem dX12_meeting_82 : decode cX12_meeting 82 = .ok (.aload_n 0, 1) := by decide +kernel
theorem dX12_meeting_83 : decode cX12_meeting 83 = .ok (.iload_n 1, 1) := by decide +kernel
theorem dX12_meeting_84 : decode cX12_meeting 84 = .ok (.iload_n 2, 1) := by decide +kernel
theorem dX12_meeting_85 : decode cX12_meeting 85 = .ok (.invokevirtual 427, 3) := by decide +kernel
theorem dX12_meeting_88 : decode cX12_meeting 88 = .ok (.iconst 1, 1) := by decide +kernel
theorem dX12_meeting_89 : decode cX12_meeting 89 = .ok (.istore_n 3, 1) := by decide +kernel
theorem dX12_meeting_90 : decode cX12_meeting 90 = .ok (.iconst 0, 1) := by decide +kernel
theorem dX12_meeting_91 : decode cX12_meeting 91 = .ok (.istore 4, 2) := by decide +kernel
theorem dX12_meeting_93 : decode cX12_meeting 93 = .ok (.iload 4, 2) := by decide +kernel
theorem dX12_meeting_95 : decode cX12_meeting 95 = .ok (.aload_n 0, 1) := by decide +kernel
theorem dX12_meeting_96 : decode cX12_meeting 96 = .ok (.getfield 406, 3) := by decide +kernel
theorem dX12_meeting_99 : decode cX12_meeting 99 = .ok (.if_icmp .ge 37, 3) := by decide +kernel
theorem dX12_meeting_102 : decode cX12_meeting 102 = .ok (.iload 4, 2) := by decide +kernel
theorem dX12_meeting_104 : decode cX12_meeting 104 = .ok (.iload_n 2, 1) := by decide +kernel
theorem dX12_meeting_105 : decode cX12_meeting 105 = .ok (.if_icmp .eq 25, 3) := by decide +kernel
theorem dX12_meeting_108 : decode cX12_meeting 108 = .ok (.aload_n 0, 1) := by decide +kernel
theorem dX12_meeting_109 : decode cX12_meeting 109 = .ok (.getfield 153, 3) := by decide +kernel
theorem dX12_meeting_112 : decode cX12_meeting 112 = .ok (.iload 4, 2) := by decide +kernel
theorem dX12_meeting_114 : decode cX12_meeting 114 = .ok (.baload, 1) := by decide +kernel
theorem dX12_meeting_115 : decode cX12_meeting 115 = .ok (.ifCond .eq 15, 3) := by decide +kernel
theorem dX12_meeting_118 : decode cX12_meeting 118 = .ok (.aload_n 0, 1) := by decide +kernel
theorem dX12_meeting_119 : decode cX12_meeting 119 = .ok (.getfield 150, 3) := by decide +kernel
theorem dX12_meeting_122 : decode cX12_meeting 122 = .ok (.iload 4, 2) := by decide +kernel
theorem dX12_meeting_124 : decode cX12_meeting 124 = .ok (.baload, 1) := by decide +kernel
theorem dX12_meeting_125 : decode cX12_meeting 125 = .ok (.ifCond .eq 5, 3) := by decide +kernel
theorem dX12_meeting_128 : decode cX12_meeting 128 = .ok (.iconst 0, 1) := by decide +kernel
theorem dX12_meeting_129 : decode cX12_meeting 129 = .ok (.istore_n 3, 1) := by decide +kernel
theorem dX12_meeting_130 : decode cX12_meeting 130 = .ok (.iinc 4 1, 3) := by decide +kernel
theorem dX12_meeting_133 : decode cX12_meeting 133 = .ok (.goto (-40), 3) := by decide +kernel
theorem dX12_meeting_136 : decode cX12_meeting 136 = .ok (.iload_n 3, 1) := by decide +kernel
theorem dX12_meeting_137 : decode cX12_meeting 137 = .ok (.ifCond .eq 5, 3) := by decide +kernel
theorem dX12_meeting_140 : decode cX12_meeting 140 = .ok (.iload_n 2, 1) := by decide +kernel
theorem dX12_meeting_141 : decode cX12_meeting 141 = .ok (.ireturn, 1) := by decide +kernel
theorem dX12_meeting_142 : decode cX12_meeting 142 = .ok (.iinc 2 1, 3) := by decide +kernel
theorem dX12_meeting_145 : decode cX12_meeting 145 = .ok (.goto (-83), 3) := by decide +kernel
theorem dX12_meeting_148 : decode cX12_meeting 148 = .ok (.iconst (-1), 1) := by decide +kernel
theorem dX12_meeting_149 : decode cX12_meeting 149 = .ok (.ireturn, 1) := by decide +kernel
theorem dX12_regions_0 : decode cX12_regions 0 = .ok (.iconst 0, 1) := by decide +kernel
theorem dX12_regions_1 : decode cX12_regions 1 = .ok (.istore_n 1, 1) := by decide +kernel
theorem dX12_regions_2 : decode cX12_regions 2 = .ok (.iload_n 1, 1) := by decide +kernel
theorem dX12_regions_3 : decode cX12_regions 3 = .ok (.aload_n 0, 1) := by decide +kernel
theorem dX12_regions_4 : decode cX12_regions 4 = .ok (.getfield 406, 3) := by decide +kernel
theorem dX12_regions_7 : decode cX12_regions 7 = .ok (.if_icmp .ge 92, 3) := by decide +kernel
theorem dX12_regions_10 : decode cX12_regions 10 = .ok (.aload_n 0, 1) := by decide +kernel
theorem dX12_regions_11 : decode cX12_regions 11 = .ok (.getfield 135, 3) := by decide +kernel
theorem dX12_regions_14 : decode cX12_regions 14 = .ok (.iload_n 1, 1) := by decide +kernel
theorem dX12_regions_15 : decode cX12_regions 15 = .ok (.iconst (-1), 1) := by decide +kernel
theorem dX12_regions_16 : decode cX12_regions 16 = .ok (.iastore, 1) := by decide +kernel
theorem dX12_regions_17 : decode cX12_regions 17 = .ok (.aload_n 0, 1) := by decide +kernel
theorem dX12_regions_18 : decode cX12_regions 18 = .ok (.getfield 30, 3) := by decide +kernel
theorem dX12_regions_21 : decode cX12_regions 21 = .ok (.iload_n 1, 1) := by decide +kernel
theorem dX12_regions_22 : decode cX12_regions 22 = .ok (.iaload, 1) := by decide +kernel
theorem dX12_regions_23 : decode cX12_regions 23 = .ok (.bipush 11, 2) := by decide +kernel
theorem dX12_regions_25 : decode cX12_regions 25 = .ok (.if_icmp .ne 68, 3) := by decide +kernel
theorem dX12_regions_28 : decode cX12_regions 28 = .ok (.aload_n 0, 1) := by decide +kernel
theorem dX12_regions_29 : decode cX12_regions 29 = .ok (.getfield 129, 3) := by decide +kernel
theorem dX12_regions_32 : decode cX12_regions 32 = .ok (.iload_n 1, 1) := by decide +kernel
theorem dX12_regions_33 : decode cX12_regions 33 = .ok (.iaload, 1) := by decide +kernel
theorem dX12_regions_34 : decode cX12_regions 34 = .ok (.ifCond .ge 6, 3) := by decide +kernel
theorem dX12_regions_37 : decode cX12_regions 37 = .ok (.goto 56, 3) := by decide +kernel
theorem dX12_regions_40 : decode cX12_regions 40 = .ok (.aload_n 0, 1) := by decide +kernel
theorem dX12_regions_41 : decode cX12_regions 41 = .ok (.getfield 135, 3) := by decide +kernel
theorem dX12_regions_44 : decode cX12_regions 44 = .ok (.iload_n 1, 1) := by decide +kernel
theorem dX12_regions_45 : decode cX12_regions 45 = .ok (.aload_n 0, 1) := by decide +kernel
theorem dX12_regions_46 : decode cX12_regions 46 = .ok (.iload_n 1, 1) := by decide +kernel
theorem dX12_regions_47 : decode cX12_regions 47 = .ok (.invokevirtual 433, 3) := by decide +kernel
theorem dX12_regions_50 : decode cX12_regions 50 = .ok (.iastore, 1) := by decide +kernel
theorem dX12_regions_51 : decode cX12_regions 51 = .ok (.aload_n 0, 1) := by decide +kernel
theorem dX12_regions_52 : decode cX12_regions 52 = .ok (.iload_n 1, 1) := by decide +kernel
theorem dX12_regions_53 : decode cX12_regions 53 = .ok (.aload_n 0, 1) := by decide +kernel
theorem dX12_regions_54 : decode cX12_regions 54 = .ok (.getfield 135, 3) := by decide +kernel
theorem dX12_regions_57 : decode cX12_regions 57 = .ok (.iload_n 1, 1) := by decide +kernel
theorem dX12_regions_58 : decode cX12_regions 58 = .ok (.iaload, 1) := by decide +kernel
theorem dX12_regions_59 : decode cX12_regions 59 = .ok (.invokevirtual 427, 3) := by decide +kernel
theorem dX12_regions_62 : decode cX12_regions 62 = .ok (.iconst 0, 1) := by decide +kernel
theorem dX12_regions_63 : decode cX12_regions 63 = .ok (.istore_n 2, 1) := by decide +kernel
theorem dX12_regions_64 : decode cX12_regions 64 = .ok (.iload_n 2, 1) := by decide +kernel
theorem dX12_regions_65 : decode cX12_regions 65 = .ok (.bipush 64, 2) := by decide +kernel
theorem dX12_regions_67 : decode cX12_regions 67 = .ok (.if_icmp .ge 26, 3) := by decide +kernel
theorem dX12_regions_70 : decode cX12_regions 70 = .ok (.aload_n 0, 1) := by decide +kernel
theorem dX12_regions_71 : decode cX12_regions 71 = .ok (.getfield 138, 3) := by decide +kernel
theorem dX12_regions_74 : decode cX12_regions 74 = .ok (.bipush 64, 2) := by decide +kernel
theorem dX12_regions_76 : decode cX12_regions 76 = .ok (.iload_n 1, 1) := by decide +kernel
theorem dX12_regions_77 : decode cX12_regions 77 = .ok (.imul, 1) := by decide +kernel
theorem dX12_regions_78 : decode cX12_regions 78 = .ok (.iload_n 2, 1) := by decide +kernel
theorem dX12_regions_79 : decode cX12_regions 79 = .ok (.iadd, 1) := by decide +kernel
theorem dX12_regions_80 : decode cX12_regions 80 = .ok (.aload_n 0, 1) := by decide +kernel
theorem dX12_regions_81 : decode cX12_regions 81 = .ok (.getfield 150, 3) := by decide +kernel
theorem dX12_regions_84 : decode cX12_regions 84 = .ok (.iload_n 2, 1) := by decide +kernel
theorem dX12_regions_85 : decode cX12_regions 85 = .ok (.baload, 1) := by decide +kernel
theorem dX12_regions_86 : decode cX12_regions 86 = .ok (.bastore, 1) := by decide +kernel
theorem dX12_regions_87 : decode cX12_regions 87 = .ok (.iinc 2 1, 3) := by decide +kernel
theorem dX12_regions_90 : decode cX12_regions 90 = .ok (.goto (-26), 3) := by decide +kernel
theorem dX12_regions_93 : decode cX12_regions 93 = .ok (.iinc 1 1, 3) := by decide +kernel
theorem dX12_regions_96 : decode cX12_regions 96 = .ok (.goto (-94), 3) := by decide +kernel
theorem dX12_regions_99 : decode cX12_regions 99 = .ok (.return_, 1) := by decide +kernel
theorem dX12_rowOf_0 : decode cX12_rowOf 0 = .ok (.aload_n 0, 1) := by decide +kernel
theorem dX12_rowOf_1 : decode cX12_rowOf 1 = .ok (.getfield 39, 3) := by decide +kernel
theorem dX12_rowOf_4 : decode cX12_rowOf 4 = .ok (.iload_n 1, 1) := by decide +kernel
theorem dX12_rowOf_5 : decode cX12_rowOf 5 = .ok (.iaload, 1) := by decide +kernel
theorem dX12_rowOf_6 : decode cX12_rowOf 6 = .ok (.ifCond .ge 10, 3) := by decide +kernel
theorem dX12_rowOf_9 : decode cX12_rowOf 9 = .ok (.aload_n 0, 1) := by decide +kernel
theorem dX12_rowOf_10 : decode cX12_rowOf 10 = .ok (.getfield 210, 3) := by decide +kernel
theorem dX12_rowOf_13 : decode cX12_rowOf 13 = .ok (.goto 9, 3) := by decide +kernel
theorem dX12_rowOf_16 : decode cX12_rowOf 16 = .ok (.aload_n 0, 1) := by decide +kernel
theorem dX12_rowOf_17 : decode cX12_rowOf 17 = .ok (.getfield 39, 3) := by decide +kernel
theorem dX12_rowOf_20 : decode cX12_rowOf 20 = .ok (.iload_n 1, 1) := by decide +kernel
theorem dX12_rowOf_21 : decode cX12_rowOf 21 = .ok (.iaload, 1) := by decide +kernel
theorem dX12_rowOf_22 : decode cX12_rowOf 22 = .ok (.ireturn, 1) := by decide +kernel
theorem dX12_taken_0 : decode cX12_taken 0 = .ok (.aload_n 0, 1) := by decide +kernel
theorem dX12_taken_1 : decode cX12_taken 1 = .ok (.getfield 210, 3) := by decide +kernel
theorem dX12_taken_4 : decode cX12_taken 4 = .ok (.istore_n 2, 1) := by decide +kernel
theorem dX12_taken_5 : decode cX12_taken 5 = .ok (.iconst 0, 1) := by decide +kernel
theorem dX12_taken_6 : decode cX12_taken 6 = .ok (.istore_n 3, 1) := by decide +kernel
theorem dX12_taken_7 : decode cX12_taken 7 = .ok (.iload_n 3, 1) := by decide +kernel
theorem dX12_taken_8 : decode cX12_taken 8 = .ok (.aload_n 0, 1) := by decide +kernel
theorem dX12_taken_9 : decode cX12_taken 9 = .ok (.aload_n 0, 1) := by decide +kernel
theorem dX12_taken_10 : decode cX12_taken 10 = .ok (.getfield 30, 3) := by decide +kernel
theorem dX12_taken_13 : decode cX12_taken 13 = .ok (.iload_n 1, 1) := by decide +kernel
theorem dX12_taken_14 : decode cX12_taken 14 = .ok (.iaload, 1) := by decide +kernel
theorem dX12_taken_15 : decode cX12_taken 15 = .ok (.invokevirtual 418, 3) := by decide +kernel
theorem dX12_taken_18 : decode cX12_taken 18 = .ok (.if_icmp .ge 38, 3) := by decide +kernel
theorem dX12_taken_21 : decode cX12_taken 21 = .ok (.aload_n 0, 1) := by decide +kernel
theorem dX12_taken_22 : decode cX12_taken 22 = .ok (.iload_n 2, 1) := by decide +kernel
theorem dX12_taken_23 : decode cX12_taken 23 = .ok (.aload_n 0, 1) := by decide +kernel
theorem dX12_taken_24 : decode cX12_taken 24 = .ok (.getfield 144, 3) := by decide +kernel
theorem dX12_taken_27 : decode cX12_taken 27 = .ok (.bipush 56, 2) := by decide +kernel
theorem dX12_taken_29 : decode cX12_taken 29 = .ok (.iload_n 1, 1) := by decide +kernel
theorem dX12_taken_30 : decode cX12_taken 30 = .ok (.imul, 1) := by decide +kernel
theorem dX12_taken_31 : decode cX12_taken 31 = .ok (.bipush 26, 2) := by decide +kernel
theorem dX12_taken_33 : decode cX12_taken 33 = .ok (.iadd, 1) := by decide +kernel
theorem dX12_taken_34 : decode cX12_taken 34 = .ok (.aload_n 0, 1) := by decide +kernel
theorem dX12_taken_35 : decode cX12_taken 35 = .ok (.getfield 129, 3) := by decide +kernel
theorem dX12_taken_38 : decode cX12_taken 38 = .ok (.iload_n 1, 1) := by decide +kernel
theorem dX12_taken_39 : decode cX12_taken 39 = .ok (.iaload, 1) := by decide +kernel
theorem dX12_taken_40 : decode cX12_taken 40 = .ok (.iadd, 1) := by decide +kernel
theorem dX12_taken_41 : decode cX12_taken 41 = .ok (.iconst 1, 1) := by decide +kernel
theorem dX12_taken_42 : decode cX12_taken 42 = .ok (.isub, 1) := by decide +kernel
theorem dX12_taken_43 : decode cX12_taken 43 = .ok (.iload_n 3, 1) := by decide +kernel
theorem dX12_taken_44 : decode cX12_taken 44 = .ok (.isub, 1) := by decide +kernel
theorem dX12_taken_45 : decode cX12_taken 45 = .ok (.iaload, 1) := by decide +kernel
theorem dX12_taken_46 : decode cX12_taken 46 = .ok (.invokevirtual 347, 3) := by decide +kernel
theorem dX12_taken_49 : decode cX12_taken 49 = .ok (.istore_n 2, 1) := by decide +kernel
theorem dX12_taken_50 : decode cX12_taken 50 = .ok (.iinc 3 1, 3) := by decide +kernel
theorem dX12_taken_53 : decode cX12_taken 53 = .ok (.goto (-46), 3) := by decide +kernel
theorem dX12_taken_56 : decode cX12_taken 56 = .ok (.iload_n 2, 1) := by decide +kernel
theorem dX12_taken_57 : decode cX12_taken 57 = .ok (.ireturn, 1) := by decide +kernel
theorem dX12_behindOf_0 : decode cX12_behindOf 0 = .ok (.iconst 0, 1) := by decide +kernel
theorem dX12_behindOf_1 : decode cX12_behindOf 1 = .ok (.istore_n 2, 1) := by decide +kernel
theorem dX12_behindOf_2 : decode cX12_behindOf 2 = .ok (.iload_n 2, 1) := by decide +kernel
theorem dX12_behindOf_3 : decode cX12_behindOf 3 = .ok (.bipush 56, 2) := by decide +kernel
theorem dX12_behindOf_5 : decode cX12_behindOf 5 = .ok (.if_icmp .ge 26, 3) := by decide +kernel
theorem dX12_behindOf_8 : decode cX12_behindOf 8 = .ok (.aload_n 0, 1) := by decide +kernel
theorem dX12_behindOf_9 : decode cX12_behindOf 9 = .ok (.getfield 147, 3) := by decide +kernel
theorem dX12_behindOf_12 : decode cX12_behindOf 12 = .ok (.iload_n 2, 1) := by decide +kernel
theorem dX12_behindOf_13 : decode cX12_behindOf 13 = .ok (.aload_n 0, 1) := by decide +kernel
theorem dX12_behindOf_14 : decode cX12_behindOf 14 = .ok (.getfield 144, 3) := by decide +kernel
theorem dX12_behindOf_17 : decode cX12_behindOf 17 = .ok (.bipush 56, 2) := by decide +kernel
theorem dX12_behindOf_19 : decode cX12_behindOf 19 = .ok (.iload_n 1, 1) := by decide +kernel
theorem dX12_behindOf_20 : decode cX12_behindOf 20 = .ok (.imul, 1) := by decide +kernel
theorem dX12_behindOf_21 : decode cX12_behindOf 21 = .ok (.iload_n 2, 1) := by decide +kernel
theorem dX12_behindOf_22 : decode cX12_behindOf 22 = .ok (.iadd, 1) := by decide +kernel
theorem dX12_behindOf_23 : decode cX12_behindOf 23 = .ok (.iaload, 1) := by decide +kernel
theorem dX12_behindOf_24 : decode cX12_behindOf 24 = .ok (.iastore, 1) := by decide +kernel
theorem dX12_behindOf_25 : decode cX12_behindOf 25 = .ok (.iinc 2 1, 3) := by decide +kernel
theorem dX12_behindOf_28 : decode cX12_behindOf 28 = .ok (.goto (-26), 3) := by decide +kernel
theorem dX12_behindOf_31 : decode cX12_behindOf 31 = .ok (.aload_n 0, 1) := by decide +kernel
theorem dX12_behindOf_32 : decode cX12_behindOf 32 = .ok (.aload_n 0, 1) := by decide +kernel
theorem dX12_behindOf_33 : decode cX12_behindOf 33 = .ok (.getfield 141, 3) := by decide +kernel
theorem dX12_behindOf_36 : decode cX12_behindOf 36 = .ok (.iload_n 1, 1) := by decide +kernel
theorem dX12_behindOf_37 : decode cX12_behindOf 37 = .ok (.iaload, 1) := by decide +kernel
theorem dX12_behindOf_38 : decode cX12_behindOf 38 = .ok (.aload_n 0, 1) := by decide +kernel
theorem dX12_behindOf_39 : decode cX12_behindOf 39 = .ok (.iload_n 1, 1) := by decide +kernel
theorem dX12_behindOf_40 : decode cX12_behindOf 40 = .ok (.invokevirtual 436, 3) := by decide +kernel
theorem dX12_behindOf_43 : decode cX12_behindOf 43 = .ok (.invokevirtual 347, 3) := by decide +kernel
theorem dX12_behindOf_46 : decode cX12_behindOf 46 = .ok (.istore_n 2, 1) := by decide +kernel
theorem dX12_behindOf_47 : decode cX12_behindOf 47 = .ok (.aload_n 0, 1) := by decide +kernel
theorem dX12_behindOf_48 : decode cX12_behindOf 48 = .ok (.getfield 30, 3) := by decide +kernel
theorem dX12_behindOf_51 : decode cX12_behindOf 51 = .ok (.iload_n 1, 1) := by decide +kernel
theorem dX12_behindOf_52 : decode cX12_behindOf 52 = .ok (.iaload, 1) := by decide +kernel
theorem dX12_behindOf_53 : decode cX12_behindOf 53 = .ok (.istore_n 3, 1) := by decide +kernel
theorem dX12_behindOf_54 : decode cX12_behindOf 54 = .ok (.iload_n 3, 1) := by decide +kernel
theorem dX12_behindOf_55 : decode cX12_behindOf 55 = .ok (.iconst 2, 1) := by decide +kernel
theorem dX12_behindOf_56 : decode cX12_behindOf 56 = .ok (.if_icmp .ne 29, 3) := by decide +kernel
theorem dX12_behindOf_59 : decode cX12_behindOf 59 = .ok (.aload_n 0, 1) := by decide +kernel
theorem dX12_behindOf_60 : decode cX12_behindOf 60 = .ok (.getfield 36, 3) := by decide +kernel
theorem dX12_behindOf_63 : decode cX12_behindOf 63 = .ok (.aload_n 0, 1) := by decide +kernel
theorem dX12_behindOf_64 : decode cX12_behindOf 64 = .ok (.getfield 33, 3) := by decide +kernel
theorem dX12_behindOf_67 : decode cX12_behindOf 67 = .ok (.iload_n 1, 1) := by decide +kernel
theorem dX12_behindOf_68 : decode cX12_behindOf 68 = .ok (.iaload, 1) := by decide +kernel
theorem dX12_behindOf_69 : decode cX12_behindOf 69 = .ok (.iaload, 1) := by decide +kernel
theorem dX12_behindOf_70 : decode cX12_behindOf 70 = .ok (.ifCond .ge 15, 3) := by decide +kernel
theorem dX12_behindOf_73 : decode cX12_behindOf 73 = .ok (.aload_n 0, 1) := by decide +kernel
theorem dX12_behindOf_74 : decode cX12_behindOf 74 = .ok (.getfield 147, 3) := by decide +kernel
theorem dX12_behindOf_77 : decode cX12_behindOf 77 = .ok (.aload_n 0, 1) := by decide +kernel
theorem dX12_behindOf_78 : decode cX12_behindOf 78 = .ok (.getfield 33, 3) := by decide +kernel
theorem dX12_behindOf_81 : decode cX12_behindOf 81 = .ok (.iload_n 1, 1) := by decide +kernel
theorem dX12_behindOf_82 : decode cX12_behindOf 82 = .ok (.iaload, 1) := by decide +kernel
theorem dX12_behindOf_83 : decode cX12_behindOf 83 = .ok (.iload_n 2, 1) := by decide +kernel
theorem dX12_behindOf_84 : decode cX12_behindOf 84 = .ok (.iastore, 1) := by decide +kernel
theorem dX12_behindOf_85 : decode cX12_behindOf 85 = .ok (.iload_n 3, 1) := by decide +kernel
theorem dX12_behindOf_86 : decode cX12_behindOf 86 = .ok (.iconst 1, 1) := by decide +kernel
theorem dX12_behindOf_87 : decode cX12_behindOf 87 = .ok (.if_icmp .ne 25, 3) := by decide +kernel
theorem dX12_behindOf_90 : decode cX12_behindOf 90 = .ok (.aload_n 0, 1) := by decide +kernel
theorem dX12_behindOf_91 : decode cX12_behindOf 91 = .ok (.iload_n 2, 1) := by decide +kernel
theorem dX12_behindOf_92 : decode cX12_behindOf 92 = .ok (.aload_n 0, 1) := by decide +kernel
theorem dX12_behindOf_93 : decode cX12_behindOf 93 = .ok (.getfield 144, 3) := by decide +kernel
theorem dX12_behindOf_96 : decode cX12_behindOf 96 = .ok (.bipush 56, 2) := by decide +kernel
theorem dX12_behindOf_98 : decode cX12_behindOf 98 = .ok (.iload_n 1, 1) := by decide +kernel
theorem dX12_behindOf_99 : decode cX12_behindOf 99 = .ok (.imul, 1) := by decide +kernel
theorem dX12_behindOf_100 : decode cX12_behindOf 100 = .ok (.aload_n 0, 1) := by decide +kernel
theorem dX12_behindOf_101 : decode cX12_behindOf 101 = .ok (.getfield 33, 3) := by decide +kernel
theorem dX12_behindOf_104 : decode cX12_behindOf 104 = .ok (.iload_n 1, 1) := by decide +kernel
theorem dX12_behindOf_105 : decode cX12_behindOf 105 = .ok (.iaload, 1) := by decide +kernel
theorem dX12_behindOf_106 : decode cX12_behindOf 106 = .ok (.iadd, 1) := by decide +kernel
theorem dX12_behindOf_107 : decode cX12_behindOf 107 = .ok (.iaload, 1) := by decide +kernel
theorem dX12_behindOf_108 : decode cX12_behindOf 108 = .ok (.invokevirtual 347, 3) := by decide +kernel
theorem dX12_behindOf_111 : decode cX12_behindOf 111 = .ok (.istore_n 2, 1) := by decide +kernel
theorem dX12_behindOf_112 : decode cX12_behindOf 112 = .ok (.iload_n 3, 1) := by decide +kernel
theorem dX12_behindOf_113 : decode cX12_behindOf 113 = .ok (.iconst 3, 1) := by decide +kernel
theorem dX12_behindOf_114 : decode cX12_behindOf 114 = .ok (.if_icmp .ne 19, 3) := by decide +kernel
theorem dX12_behindOf_117 : decode cX12_behindOf 117 = .ok (.aload_n 0, 1) := by decide +kernel
theorem dX12_behindOf_118 : decode cX12_behindOf 118 = .ok (.iload_n 2, 1) := by decide +kernel
theorem dX12_behindOf_119 : decode cX12_behindOf 119 = .ok (.aload_n 0, 1) := by decide +kernel
theorem dX12_behindOf_120 : decode cX12_behindOf 120 = .ok (.aload_n 0, 1) := by decide +kernel
theorem dX12_behindOf_121 : decode cX12_behindOf 121 = .ok (.getfield 33, 3) := by decide +kernel
theorem dX12_behindOf_124 : decode cX12_behindOf 124 = .ok (.iload_n 1, 1) := by decide +kernel
theorem dX12_behindOf_125 : decode cX12_behindOf 125 = .ok (.iaload, 1) := by decide +kernel
theorem dX12_behindOf_126 : decode cX12_behindOf 126 = .ok (.invokevirtual 439, 3) := by decide +kernel
theorem dX12_behindOf_129 : decode cX12_behindOf 129 = .ok (.invokevirtual 347, 3) := by decide +kernel
theorem dX12_behindOf_132 : decode cX12_behindOf 132 = .ok (.istore_n 2, 1) := by decide +kernel
theorem dX12_behindOf_133 : decode cX12_behindOf 133 = .ok (.iload_n 3, 1) := by decide +kernel
theorem dX12_behindOf_134 : decode cX12_behindOf 134 = .ok (.bipush 13, 2) := by decide +kernel
theorem dX12_behindOf_136 : decode cX12_behindOf 136 = .ok (.if_icmp .ne 15, 3) := by decide +kernel
theorem dX12_behindOf_139 : decode cX12_behindOf 139 = .ok (.aload_n 0, 1) := by decide +kernel
theorem dX12_behindOf_140 : decode cX12_behindOf 140 = .ok (.iload_n 2, 1) := by decide +kernel
theorem dX12_behindOf_141 : decode cX12_behindOf 141 = .ok (.aload_n 0, 1) := by decide +kernel
theorem dX12_behindOf_142 : decode cX12_behindOf 142 = .ok (.getfield 33, 3) := by decide +kernel
theorem dX12_behindOf_145 : decode cX12_behindOf 145 = .ok (.iload_n 1, 1) := by decide +kernel
theorem dX12_behindOf_146 : decode cX12_behindOf 146 = .ok (.iaload, 1) := by decide +kernel
theorem dX12_behindOf_147 : decode cX12_behindOf 147 = .ok (.invokevirtual 347, 3) := by decide +kernel
theorem dX12_behindOf_150 : decode cX12_behindOf 150 = .ok (.istore_n 2, 1) := by decide +kernel
theorem dX12_behindOf_151 : decode cX12_behindOf 151 = .ok (.aload_n 0, 1) := by decide +kernel
theorem dX12_behindOf_152 : decode cX12_behindOf 152 = .ok (.iload_n 3, 1) := by decide +kernel
theorem dX12_behindOf_153 : decode cX12_behindOf 153 = .ok (.invokevirtual 421, 3) := by decide +kernel
theorem dX12_behindOf_156 : decode cX12_behindOf 156 = .ok (.iconst 1, 1) := by decide +kernel
theorem dX12_behindOf_157 : decode cX12_behindOf 157 = .ok (.if_icmp .ne 24, 3) := by decide +kernel
theorem dX12_behindOf_160 : decode cX12_behindOf 160 = .ok (.aload_n 0, 1) := by decide +kernel
theorem dX12_behindOf_161 : decode cX12_behindOf 161 = .ok (.getfield 147, 3) := by decide +kernel
theorem dX12_behindOf_164 : decode cX12_behindOf 164 = .ok (.bipush 26, 2) := by decide +kernel
theorem dX12_behindOf_166 : decode cX12_behindOf 166 = .ok (.aload_n 0, 1) := by decide +kernel
theorem dX12_behindOf_167 : decode cX12_behindOf 167 = .ok (.getfield 129, 3) := by decide +kernel
theorem dX12_behindOf_170 : decode cX12_behindOf 170 = .ok (.iload_n 1, 1) := by decide +kernel
theorem dX12_behindOf_171 : decode cX12_behindOf 171 = .ok (.iaload, 1) := by decide +kernel
theorem dX12_behindOf_172 : decode cX12_behindOf 172 = .ok (.iadd, 1) := by decide +kernel
theorem dX12_behindOf_173 : decode cX12_behindOf 173 = .ok (.aload_n 0, 1) := by decide +kernel
theorem dX12_behindOf_174 : decode cX12_behindOf 174 = .ok (.iload_n 3, 1) := by decide +kernel
theorem dX12_behindOf_175 : decode cX12_behindOf 175 = .ok (.invokevirtual 418, 3) := by decide +kernel
theorem dX12_behindOf_178 : decode cX12_behindOf 178 = .ok (.isub, 1) := by decide +kernel
theorem dX12_behindOf_179 : decode cX12_behindOf 179 = .ok (.iload_n 2, 1) := by decide +kernel
theorem dX12_behindOf_180 : decode cX12_behindOf 180 = .ok (.iastore, 1) := by decide +kernel
theorem dX12_behindOf_181 : decode cX12_behindOf 181 = .ok (.return_, 1) := by decide +kernel
theorem dX12_spread_0 : decode cX12_spread 0 = .ok (.iconst 0, 1) := by decide +kernel
theorem dX12_spread_1 : decode cX12_spread 1 = .ok (.istore_n 2, 1) := by decide +kernel
theorem dX12_spread_2 : decode cX12_spread 2 = .ok (.aload_n 0, 1) := by decide +kernel
theorem dX12_spread_3 : decode cX12_spread 3 = .ok (.iload_n 1, 1) := by decide +kernel
theorem dX12_spread_4 : decode cX12_spread 4 = .ok (.invokevirtual 442, 3) := by decide +kernel
theorem dX12_spread_7 : decode cX12_spread 7 = .ok (.iconst 0, 1) := by decide +kernel
theorem dX12_spread_8 : decode cX12_spread 8 = .ok (.istore_n 3, 1) := by decide +kernel
theorem dX12_spread_9 : decode cX12_spread 9 = .ok (.iload_n 3, 1) := by decide +kernel
theorem dX12_spread_10 : decode cX12_spread 10 = .ok (.iconst 2, 1) := by decide +kernel
theorem dX12_spread_11 : decode cX12_spread 11 = .ok (.if_icmp .ge 110, 3) := by decide +kernel
theorem dX12_spread_14 : decode cX12_spread 14 = .ok (.aload_n 0, 1) := by decide +kernel
theorem dX12_spread_15 : decode cX12_spread 15 = .ok (.iload_n 1, 1) := by decide +kernel
theorem dX12_spread_16 : decode cX12_spread 16 = .ok (.iload_n 3, 1) := by decide +kernel
theorem dX12_spread_17 : decode cX12_spread 17 = .ok (.invokevirtual 424, 3) := by decide +kernel
theorem dX12_spread_20 : decode cX12_spread 20 = .ok (.istore 4, 2) := by decide +kernel
theorem dX12_spread_22 : decode cX12_spread 22 = .ok (.iload 4, 2) := by decide +kernel
theorem dX12_spread_24 : decode cX12_spread 24 = .ok (.ifCond .ge 6, 3) := by decide +kernel
theorem dX12_spread_27 : decode cX12_spread 27 = .ok (.goto 88, 3) := by decide +kernel
theorem dX12_spread_30 : decode cX12_spread 30 = .ok (.iconst 0, 1) := by decide +kernel
theorem dX12_spread_31 : decode cX12_spread 31 = .ok (.istore 5, 2) := by decide +kernel
theorem dX12_spread_33 : decode cX12_spread 33 = .ok (.iload 5, 2) := by decide +kernel
theorem dX12_spread_35 : decode cX12_spread 35 = .ok (.bipush 26, 2) := by decide +kernel
theorem dX12_spread_37 : decode cX12_spread 37 = .ok (.aload_n 0, 1) := by decide +kernel
theorem dX12_spread_38 : decode cX12_spread 38 = .ok (.getfield 129, 3) := by decide +kernel
theorem dX12_spread_41 : decode cX12_spread 41 = .ok (.iload 4, 2) := by decide +kernel
theorem dX12_spread_43 : decode cX12_spread 43 = .ok (.iaload, 1) := by decide +kernel
theorem dX12_spread_44 : decode cX12_spread 44 = .ok (.iadd, 1) := by decide +kernel
theorem dX12_spread_45 : decode cX12_spread 45 = .ok (.if_icmp .ge 70, 3) := by decide +kernel
theorem dX12_spread_48 : decode cX12_spread 48 = .ok (.aload_n 0, 1) := by decide +kernel
theorem dX12_spread_49 : decode cX12_spread 49 = .ok (.aload_n 0, 1) := by decide +kernel
theorem dX12_spread_50 : decode cX12_spread 50 = .ok (.getfield 144, 3) := by decide +kernel
theorem dX12_spread_53 : decode cX12_spread 53 = .ok (.bipush 56, 2) := by decide +kernel
theorem dX12_spread_55 : decode cX12_spread 55 = .ok (.iload 4, 2) := by decide +kernel
theorem dX12_spread_57 : decode cX12_spread 57 = .ok (.imul, 1) := by decide +kernel
theorem dX12_spread_58 : decode cX12_spread 58 = .ok (.iload 5, 2) := by decide +kernel
theorem dX12_spread_60 : decode cX12_spread 60 = .ok (.iadd, 1) := by decide +kernel
theorem dX12_spread_61 : decode cX12_spread 61 = .ok (.iaload, 1) := by decide +kernel
theorem dX12_spread_62 : decode cX12_spread 62 = .ok (.aload_n 0, 1) := by decide +kernel
theorem dX12_spread_63 : decode cX12_spread 63 = .ok (.getfield 147, 3) := by decide +kernel
theorem dX12_spread_66 : decode cX12_spread 66 = .ok (.iload 5, 2) := by decide +kernel
theorem dX12_spread_68 : decode cX12_spread 68 = .ok (.iaload, 1) := by decide +kernel
theorem dX12_spread_69 : decode cX12_spread 69 = .ok (.invokevirtual 347, 3) := by decide +kernel
theorem dX12_spread_72 : decode cX12_spread 72 = .ok (.istore 6, 2) := by decide +kernel
theorem dX12_spread_74 : decode cX12_spread 74 = .ok (.iload 6, 2) := by decide +kernel
theorem dX12_spread_76 : decode cX12_spread 76 = .ok (.aload_n 0, 1) := by decide +kernel
theorem dX12_spread_77 : decode cX12_spread 77 = .ok (.getfield 144, 3) := by decide +kernel
theorem dX12_spread_80 : decode cX12_spread 80 = .ok (.bipush 56, 2) := by decide +kernel
theorem dX12_spread_82 : decode cX12_spread 82 = .ok (.iload 4, 2) := by decide +kernel
theorem dX12_spread_84 : decode cX12_spread 84 = .ok (.imul, 1) := by decide +kernel
theorem dX12_spread_85 : decode cX12_spread 85 = .ok (.iload 5, 2) := by decide +kernel
theorem dX12_spread_87 : decode cX12_spread 87 = .ok (.iadd, 1) := by decide +kernel
theorem dX12_spread_88 : decode cX12_spread 88 = .ok (.iaload, 1) := by decide +kernel
theorem dX12_spread_89 : decode cX12_spread 89 = .ok (.if_icmp .eq 5, 3) := by decide +kernel
theorem dX12_spread_92 : decode cX12_spread 92 = .ok (.iconst 1, 1) := by decide +kernel
theorem dX12_spread_93 : decode cX12_spread 93 = .ok (.istore_n 2, 1) := by decide +kernel
theorem dX12_spread_94 : decode cX12_spread 94 = .ok (.aload_n 0, 1) := by decide +kernel
theorem dX12_spread_95 : decode cX12_spread 95 = .ok (.getfield 144, 3) := by decide +kernel
theorem dX12_spread_98 : decode cX12_spread 98 = .ok (.bipush 56, 2) := by decide +kernel
theorem dX12_spread_100 : decode cX12_spread 100 = .ok (.iload 4, 2) := by decide +kernel
theorem dX12_spread_102 : decode cX12_spread 102 = .ok (.imul, 1) := by decide +kernel
theorem dX12_spread_103 : decode cX12_spread 103 = .ok (.iload 5, 2) := by decide +kernel
theorem dX12_spread_105 : decode cX12_spread 105 = .ok (.iadd, 1) := by decide +kernel
theorem dX12_spread_106 : decode cX12_spread 106 = .ok (.iload 6, 2) := by decide +kernel
theorem dX12_spread_108 : decode cX12_spread 108 = .ok (.iastore, 1) := by decide +kernel
theorem dX12_spread_109 : decode cX12_spread 109 = .ok (.iinc 5 1, 3) := by decide +kernel
theorem dX12_spread_112 : decode cX12_spread 112 = .ok (.goto (-79), 3) := by decide +kernel
theorem dX12_spread_115 : decode cX12_spread 115 = .ok (.iinc 3 1, 3) := by decide +kernel
theorem dX12_spread_118 : decode cX12_spread 118 = .ok (.goto (-109), 3) := by decide +kernel
theorem dX12_spread_121 : decode cX12_spread 121 = .ok (.aload_n 0, 1) := by decide +kernel
theorem dX12_spread_122 : decode cX12_spread 122 = .ok (.getfield 30, 3) := by decide +kernel
theorem dX12_spread_125 : decode cX12_spread 125 = .ok (.iload_n 1, 1) := by decide +kernel
theorem dX12_spread_126 : decode cX12_spread 126 = .ok (.iaload, 1) := by decide +kernel
theorem dX12_spread_127 : decode cX12_spread 127 = .ok (.bipush 11, 2) := by decide +kernel
theorem dX12_spread_129 : decode cX12_spread 129 = .ok (.if_icmp .eq 5, 3) := by decide +kernel
theorem dX12_spread_132 : decode cX12_spread 132 = .ok (.iload_n 2, 1) := by decide +kernel
theorem dX12_spread_133 : decode cX12_spread 133 = .ok (.ireturn, 1) := by decide +kernel
theorem dX12_spread_134 : decode cX12_spread 134 = .ok (.aload_n 0, 1) := by decide +kernel
theorem dX12_spread_135 : decode cX12_spread 135 = .ok (.aload_n 0, 1) := by decide +kernel
theorem dX12_spread_136 : decode cX12_spread 136 = .ok (.getfield 141, 3) := by decide +kernel
theorem dX12_spread_139 : decode cX12_spread 139 = .ok (.iload_n 1, 1) := by decide +kernel
theorem dX12_spread_140 : decode cX12_spread 140 = .ok (.iaload, 1) := by decide +kernel
theorem dX12_spread_141 : decode cX12_spread 141 = .ok (.aload_n 0, 1) := by decide +kernel
theorem dX12_spread_142 : decode cX12_spread 142 = .ok (.iload_n 1, 1) := by decide +kernel
theorem dX12_spread_143 : decode cX12_spread 143 = .ok (.invokevirtual 436, 3) := by decide +kernel
theorem dX12_spread_146 : decode cX12_spread 146 = .ok (.invokevirtual 347, 3) := by decide +kernel
theorem dX12_spread_149 : decode cX12_spread 149 = .ok (.istore_n 3, 1) := by decide +kernel
theorem dX12_spread_150 : decode cX12_spread 150 = .ok (.iconst 0, 1) := by decide +kernel
theorem dX12_spread_151 : decode cX12_spread 151 = .ok (.istore 4, 2) := by decide +kernel
theorem dX12_spread_153 : decode cX12_spread 153 = .ok (.iload 4, 2) := by decide +kernel
theorem dX12_spread_155 : decode cX12_spread 155 = .ok (.aload_n 0, 1) := by decide +kernel
theorem dX12_spread_156 : decode cX12_spread 156 = .ok (.getfield 406, 3) := by decide +kernel
theorem dX12_spread_159 : decode cX12_spread 159 = .ok (.if_icmp .ge 70, 3) := by decide +kernel
theorem dX12_spread_162 : decode cX12_spread 162 = .ok (.aload_n 0, 1) := by decide +kernel
theorem dX12_spread_163 : decode cX12_spread 163 = .ok (.getfield 138, 3) := by decide +kernel
theorem dX12_spread_166 : decode cX12_spread 166 = .ok (.bipush 64, 2) := by decide +kernel
theorem dX12_spread_168 : decode cX12_spread 168 = .ok (.iload_n 1, 1) := by decide +kernel
theorem dX12_spread_169 : decode cX12_spread 169 = .ok (.imul, 1) := by decide +kernel
theorem dX12_spread_170 : decode cX12_spread 170 = .ok (.iload 4, 2) := by decide +kernel
theorem dX12_spread_172 : decode cX12_spread 172 = .ok (.iadd, 1) := by decide +kernel
theorem dX12_spread_173 : decode cX12_spread 173 = .ok (.baload, 1) := by decide +kernel
theorem dX12_spread_174 : decode cX12_spread 174 = .ok (.ifCond .eq 49, 3) := by decide +kernel
theorem dX12_spread_177 : decode cX12_spread 177 = .ok (.aload_n 0, 1) := by decide +kernel
theorem dX12_spread_178 : decode cX12_spread 178 = .ok (.aload_n 0, 1) := by decide +kernel
theorem dX12_spread_179 : decode cX12_spread 179 = .ok (.getfield 141, 3) := by decide +kernel
theorem dX12_spread_182 : decode cX12_spread 182 = .ok (.iload 4, 2) := by decide +kernel
theorem dX12_spread_184 : decode cX12_spread 184 = .ok (.iaload, 1) := by decide +kernel
theorem dX12_spread_185 : decode cX12_spread 185 = .ok (.iload_n 3, 1) := by decide +kernel
theorem dX12_spread_186 : decode cX12_spread 186 = .ok (.invokevirtual 347, 3) := by decide +kernel
theorem dX12_spread_189 : decode cX12_spread 189 = .ok (.aload_n 0, 1) := by decide +kernel
theorem dX12_spread_190 : decode cX12_spread 190 = .ok (.getfield 141, 3) := by decide +kernel
theorem dX12_spread_193 : decode cX12_spread 193 = .ok (.iload 4, 2) := by decide +kernel
theorem dX12_spread_195 : decode cX12_spread 195 = .ok (.iaload, 1) := by decide +kernel
theorem dX12_spread_196 : decode cX12_spread 196 = .ok (.if_icmp .ne 6, 3) := by decide +kernel
theorem dX12_spread_199 : decode cX12_spread 199 = .ok (.goto 24, 3) := by decide +kernel
theorem dX12_spread_202 : decode cX12_spread 202 = .ok (.aload_n 0, 1) := by decide +kernel
theorem dX12_spread_203 : decode cX12_spread 203 = .ok (.getfield 141, 3) := by decide +kernel
theorem dX12_spread_206 : decode cX12_spread 206 = .ok (.iload 4, 2) := by decide +kernel
theorem dX12_spread_208 : decode cX12_spread 208 = .ok (.aload_n 0, 1) := by decide +kernel
theorem dX12_spread_209 : decode cX12_spread 209 = .ok (.aload_n 0, 1) := by decide +kernel
theorem dX12_spread_210 : decode cX12_spread 210 = .ok (.getfield 141, 3) := by decide +kernel
theorem dX12_spread_213 : decode cX12_spread 213 = .ok (.iload 4, 2) := by decide +kernel
theorem dX12_spread_215 : decode cX12_spread 215 = .ok (.iaload, 1) := by decide +kernel
theorem dX12_spread_216 : decode cX12_spread 216 = .ok (.iload_n 3, 1) := by decide +kernel
theorem dX12_spread_217 : decode cX12_spread 217 = .ok (.invokevirtual 347, 3) := by decide +kernel
theorem dX12_spread_220 : decode cX12_spread 220 = .ok (.iastore, 1) := by decide +kernel
theorem dX12_spread_221 : decode cX12_spread 221 = .ok (.iconst 1, 1) := by decide +kernel
theorem dX12_spread_222 : decode cX12_spread 222 = .ok (.istore_n 2, 1) := by decide +kernel
theorem dX12_spread_223 : decode cX12_spread 223 = .ok (.iinc 4 1, 3) := by decide +kernel
theorem dX12_spread_226 : decode cX12_spread 226 = .ok (.goto (-73), 3) := by decide +kernel
theorem dX12_spread_229 : decode cX12_spread 229 = .ok (.iload_n 2, 1) := by decide +kernel
theorem dX12_spread_230 : decode cX12_spread 230 = .ok (.ireturn, 1) := by decide +kernel
theorem dX12_rounds_0 : decode cX12_rounds 0 = .ok (.iconst 0, 1) := by decide +kernel
theorem dX12_rounds_1 : decode cX12_rounds 1 = .ok (.istore_n 1, 1) := by decide +kernel
theorem dX12_rounds_2 : decode cX12_rounds 2 = .ok (.iload_n 1, 1) := by decide +kernel
theorem dX12_rounds_3 : decode cX12_rounds 3 = .ok (.aload_n 0, 1) := by decide +kernel
theorem dX12_rounds_4 : decode cX12_rounds 4 = .ok (.getfield 406, 3) := by decide +kernel
theorem dX12_rounds_7 : decode cX12_rounds 7 = .ok (.if_icmp .ge 72, 3) := by decide +kernel
theorem dX12_rounds_10 : decode cX12_rounds 10 = .ok (.aload_n 0, 1) := by decide +kernel
theorem dX12_rounds_11 : decode cX12_rounds 11 = .ok (.getfield 141, 3) := by decide +kernel
theorem dX12_rounds_14 : decode cX12_rounds 14 = .ok (.iload_n 1, 1) := by decide +kernel
theorem dX12_rounds_15 : decode cX12_rounds 15 = .ok (.aload_n 0, 1) := by decide +kernel
theorem dX12_rounds_16 : decode cX12_rounds 16 = .ok (.getfield 210, 3) := by decide +kernel
theorem dX12_rounds_19 : decode cX12_rounds 19 = .ok (.iastore, 1) := by decide +kernel
theorem dX12_rounds_20 : decode cX12_rounds 20 = .ok (.iconst 0, 1) := by decide +kernel
theorem dX12_rounds_21 : decode cX12_rounds 21 = .ok (.istore_n 2, 1) := by decide +kernel
theorem dX12_rounds_22 : decode cX12_rounds 22 = .ok (.iload_n 2, 1) := by decide +kernel
theorem dX12_rounds_23 : decode cX12_rounds 23 = .ok (.bipush 56, 2) := by decide +kernel
theorem dX12_rounds_25 : decode cX12_rounds 25 = .ok (.if_icmp .ge 48, 3) := by decide +kernel
theorem dX12_rounds_28 : decode cX12_rounds 28 = .ok (.aload_n 0, 1) := by decide +kernel
theorem dX12_rounds_29 : decode cX12_rounds 29 = .ok (.getfield 144, 3) := by decide +kernel
theorem dX12_rounds_32 : decode cX12_rounds 32 = .ok (.bipush 56, 2) := by decide +kernel
theorem dX12_rounds_34 : decode cX12_rounds 34 = .ok (.iload_n 1, 1) := by decide +kernel
theorem dX12_rounds_35 : decode cX12_rounds 35 = .ok (.imul, 1) := by decide +kernel
theorem dX12_rounds_36 : decode cX12_rounds 36 = .ok (.iload_n 2, 1) := by decide +kernel
theorem dX12_rounds_37 : decode cX12_rounds 37 = .ok (.iadd, 1) := by decide +kernel
theorem dX12_rounds_38 : decode cX12_rounds 38 = .ok (.iload_n 2, 1) := by decide +kernel
theorem dX12_rounds_39 : decode cX12_rounds 39 = .ok (.bipush 26, 2) := by decide +kernel
theorem dX12_rounds_41 : decode cX12_rounds 41 = .ok (.if_icmp .ge 21, 3) := by decide +kernel
theorem dX12_rounds_44 : decode cX12_rounds 44 = .ok (.aload_n 0, 1) := by decide +kernel
theorem dX12_rounds_45 : decode cX12_rounds 45 = .ok (.getfield 36, 3) := by decide +kernel
theorem dX12_rounds_48 : decode cX12_rounds 48 = .ok (.iload_n 2, 1) := by decide +kernel
theorem dX12_rounds_49 : decode cX12_rounds 49 = .ok (.iaload, 1) := by decide +kernel
theorem dX12_rounds_50 : decode cX12_rounds 50 = .ok (.ifCond .lt 12, 3) := by decide +kernel
theorem dX12_rounds_53 : decode cX12_rounds 53 = .ok (.aload_n 0, 1) := by decide +kernel
theorem dX12_rounds_54 : decode cX12_rounds 54 = .ok (.getfield 36, 3) := by decide +kernel
theorem dX12_rounds_57 : decode cX12_rounds 57 = .ok (.iload_n 2, 1) := by decide +kernel
theorem dX12_rounds_58 : decode cX12_rounds 58 = .ok (.iaload, 1) := by decide +kernel
theorem dX12_rounds_59 : decode cX12_rounds 59 = .ok (.goto 7, 3) := by decide +kernel
theorem dX12_rounds_62 : decode cX12_rounds 62 = .ok (.aload_n 0, 1) := by decide +kernel
theorem dX12_rounds_63 : decode cX12_rounds 63 = .ok (.getfield 210, 3) := by decide +kernel
theorem dX12_rounds_66 : decode cX12_rounds 66 = .ok (.iastore, 1) := by decide +kernel
theorem dX12_rounds_67 : decode cX12_rounds 67 = .ok (.iinc 2 1, 3) := by decide +kernel
theorem dX12_rounds_70 : decode cX12_rounds 70 = .ok (.goto (-48), 3) := by decide +kernel
theorem dX12_rounds_73 : decode cX12_rounds 73 = .ok (.iinc 1 1, 3) := by decide +kernel
theorem dX12_rounds_76 : decode cX12_rounds 76 = .ok (.goto (-74), 3) := by decide +kernel
theorem dX12_rounds_79 : decode cX12_rounds 79 = .ok (.iconst 1, 1) := by decide +kernel
theorem dX12_rounds_80 : decode cX12_rounds 80 = .ok (.istore_n 1, 1) := by decide +kernel
theorem dX12_rounds_81 : decode cX12_rounds 81 = .ok (.iload_n 1, 1) := by decide +kernel
theorem dX12_rounds_82 : decode cX12_rounds 82 = .ok (.ifCond .eq 43, 3) := by decide +kernel
theorem dX12_rounds_85 : decode cX12_rounds 85 = .ok (.iconst 0, 1) := by decide +kernel
theorem dX12_rounds_86 : decode cX12_rounds 86 = .ok (.istore_n 1, 1) := by decide +kernel
theorem dX12_rounds_87 : decode cX12_rounds 87 = .ok (.iconst 0, 1) := by decide +kernel
theorem dX12_rounds_88 : decode cX12_rounds 88 = .ok (.istore_n 2, 1) := by decide +kernel
theorem dX12_rounds_89 : decode cX12_rounds 89 = .ok (.iload_n 2, 1) := by decide +kernel
theorem dX12_rounds_90 : decode cX12_rounds 90 = .ok (.aload_n 0, 1) := by decide +kernel
theorem dX12_rounds_91 : decode cX12_rounds 91 = .ok (.getfield 406, 3) := by decide +kernel
theorem dX12_rounds_94 : decode cX12_rounds 94 = .ok (.if_icmp .ge 28, 3) := by decide +kernel
theorem dX12_rounds_97 : decode cX12_rounds 97 = .ok (.aload_n 0, 1) := by decide +kernel
theorem dX12_rounds_98 : decode cX12_rounds 98 = .ok (.getfield 129, 3) := by decide +kernel
theorem dX12_rounds_101 : decode cX12_rounds 101 = .ok (.iload_n 2, 1) := by decide +kernel
theorem dX12_rounds_102 : decode cX12_rounds 102 = .ok (.iaload, 1) := by decide +kernel
theorem dX12_rounds_103 : decode cX12_rounds 103 = .ok (.ifCond .lt 13, 3) := by decide +kernel
theorem dX12_rounds_106 : decode cX12_rounds 106 = .ok (.aload_n 0, 1) := by decide +kernel
theorem dX12_rounds_107 : decode cX12_rounds 107 = .ok (.iload_n 2, 1) := by decide +kernel
theorem dX12_rounds_108 : decode cX12_rounds 108 = .ok (.invokevirtual 445, 3) := by decide +kernel
theorem dX12_rounds_111 : decode cX12_rounds 111 = .ok (.ifCond .eq 5, 3) := by decide +kernel
theorem dX12_rounds_114 : decode cX12_rounds 114 = .ok (.iconst 1, 1) := by decide +kernel
theorem dX12_rounds_115 : decode cX12_rounds 115 = .ok (.istore_n 1, 1) := by decide +kernel
theorem dX12_rounds_116 : decode cX12_rounds 116 = .ok (.iinc 2 1, 3) := by decide +kernel
theorem dX12_rounds_119 : decode cX12_rounds 119 = .ok (.goto (-30), 3) := by decide +kernel
theorem dX12_rounds_122 : decode cX12_rounds 122 = .ok (.goto (-41), 3) := by decide +kernel
theorem dX12_rounds_125 : decode cX12_rounds 125 = .ok (.return_, 1) := by decide +kernel
theorem dX12_leaks_0 : decode cX12_leaks 0 = .ok (.aload_n 0, 1) := by decide +kernel
theorem dX12_leaks_1 : decode cX12_leaks 1 = .ok (.aload_n 0, 1) := by decide +kernel
theorem dX12_leaks_2 : decode cX12_leaks 2 = .ok (.getfield 141, 3) := by decide +kernel
theorem dX12_leaks_5 : decode cX12_leaks 5 = .ok (.iload_n 1, 1) := by decide +kernel
theorem dX12_leaks_6 : decode cX12_leaks 6 = .ok (.iaload, 1) := by decide +kernel
theorem dX12_leaks_7 : decode cX12_leaks 7 = .ok (.aload_n 0, 1) := by decide +kernel
theorem dX12_leaks_8 : decode cX12_leaks 8 = .ok (.iload_n 1, 1) := by decide +kernel
theorem dX12_leaks_9 : decode cX12_leaks 9 = .ok (.invokevirtual 436, 3) := by decide +kernel
theorem dX12_leaks_12 : decode cX12_leaks 12 = .ok (.invokevirtual 347, 3) := by decide +kernel
theorem dX12_leaks_15 : decode cX12_leaks 15 = .ok (.istore_n 2, 1) := by decide +kernel
theorem dX12_leaks_16 : decode cX12_leaks 16 = .ok (.aload_n 0, 1) := by decide +kernel
theorem dX12_leaks_17 : decode cX12_leaks 17 = .ok (.getfield 33, 3) := by decide +kernel
theorem dX12_leaks_20 : decode cX12_leaks 20 = .ok (.iload_n 1, 1) := by decide +kernel
theorem dX12_leaks_21 : decode cX12_leaks 21 = .ok (.iaload, 1) := by decide +kernel
theorem dX12_leaks_22 : decode cX12_leaks 22 = .ok (.istore_n 3, 1) := by decide +kernel
theorem dX12_leaks_23 : decode cX12_leaks 23 = .ok (.aload_n 0, 1) := by decide +kernel
theorem dX12_leaks_24 : decode cX12_leaks 24 = .ok (.getfield 30, 3) := by decide +kernel
theorem dX12_leaks_27 : decode cX12_leaks 27 = .ok (.iload_n 1, 1) := by decide +kernel
theorem dX12_leaks_28 : decode cX12_leaks 28 = .ok (.iaload, 1) := by decide +kernel
theorem dX12_leaks_29 : decode cX12_leaks 29 = .ok (.lookupswitch 121 #[(2, 43), (4, 77), (13, 101), (14, 101)], 43) := by decide +kernel
theorem dX12_leaks_72 : decode cX12_leaks 72 = .ok (.aload_n 0, 1) := by decide +kernel
theorem dX12_leaks_73 : decode cX12_leaks 73 = .ok (.getfield 36, 3) := by decide +kernel
theorem dX12_leaks_76 : decode cX12_leaks 76 = .ok (.iload_n 3, 1) := by decide +kernel
theorem dX12_leaks_77 : decode cX12_leaks 77 = .ok (.iaload, 1) := by decide +kernel
theorem dX12_leaks_78 : decode cX12_leaks 78 = .ok (.ifCond .lt 26, 3) := by decide +kernel
theorem dX12_leaks_81 : decode cX12_leaks 81 = .ok (.aload_n 0, 1) := by decide +kernel
theorem dX12_leaks_82 : decode cX12_leaks 82 = .ok (.getfield 7, 3) := by decide +kernel
theorem dX12_leaks_85 : decode cX12_leaks 85 = .ok (.bipush 6, 2) := by decide +kernel
theorem dX12_leaks_87 : decode cX12_leaks 87 = .ok (.iload_n 2, 1) := by decide +kernel
theorem dX12_leaks_88 : decode cX12_leaks 88 = .ok (.imul, 1) := by decide +kernel
theorem dX12_leaks_89 : decode cX12_leaks 89 = .ok (.aload_n 0, 1) := by decide +kernel
theorem dX12_leaks_90 : decode cX12_leaks 90 = .ok (.getfield 36, 3) := by decide +kernel
theorem dX12_leaks_93 : decode cX12_leaks 93 = .ok (.iload_n 3, 1) := by decide +kernel
theorem dX12_leaks_94 : decode cX12_leaks 94 = .ok (.iaload, 1) := by decide +kernel
theorem dX12_leaks_95 : decode cX12_leaks 95 = .ok (.iadd, 1) := by decide +kernel
theorem dX12_leaks_96 : decode cX12_leaks 96 = .ok (.baload, 1) := by decide +kernel
theorem dX12_leaks_97 : decode cX12_leaks 97 = .ok (.ifCond .ne 7, 3) := by decide +kernel
theorem dX12_leaks_100 : decode cX12_leaks 100 = .ok (.iconst 1, 1) := by decide +kernel
theorem dX12_leaks_101 : decode cX12_leaks 101 = .ok (.goto 4, 3) := by decide +kernel
theorem dX12_leaks_104 : decode cX12_leaks 104 = .ok (.iconst 0, 1) := by decide +kernel
theorem dX12_leaks_105 : decode cX12_leaks 105 = .ok (.ireturn, 1) := by decide +kernel
theorem dX12_leaks_106 : decode cX12_leaks 106 = .ok (.aload_n 0, 1) := by decide +kernel
theorem dX12_leaks_107 : decode cX12_leaks 107 = .ok (.getfield 7, 3) := by decide +kernel
theorem dX12_leaks_110 : decode cX12_leaks 110 = .ok (.bipush 6, 2) := by decide +kernel
theorem dX12_leaks_112 : decode cX12_leaks 112 = .ok (.iload_n 2, 1) := by decide +kernel
theorem dX12_leaks_113 : decode cX12_leaks 113 = .ok (.imul, 1) := by decide +kernel
theorem dX12_leaks_114 : decode cX12_leaks 114 = .ok (.aload_n 0, 1) := by decide +kernel
theorem dX12_leaks_115 : decode cX12_leaks 115 = .ok (.iload_n 3, 1) := by decide +kernel
theorem dX12_leaks_116 : decode cX12_leaks 116 = .ok (.invokevirtual 439, 3) := by decide +kernel
theorem dX12_leaks_119 : decode cX12_leaks 119 = .ok (.iadd, 1) := by decide +kernel
theorem dX12_leaks_120 : decode cX12_leaks 120 = .ok (.baload, 1) := by decide +kernel
theorem dX12_leaks_121 : decode cX12_leaks 121 = .ok (.ifCond .ne 7, 3) := by decide +kernel
theorem dX12_leaks_124 : decode cX12_leaks 124 = .ok (.iconst 1, 1) := by decide +kernel
theorem dX12_leaks_125 : decode cX12_leaks 125 = .ok (.goto 4, 3) := by decide +kernel
theorem dX12_leaks_128 : decode cX12_leaks 128 = .ok (.iconst 0, 1) := by decide +kernel
theorem dX12_leaks_129 : decode cX12_leaks 129 = .ok (.ireturn, 1) := by decide +kernel
theorem dX12_leaks_130 : decode cX12_leaks 130 = .ok (.aload_n 0, 1) := by decide +kernel
theorem dX12_leaks_131 : decode cX12_leaks 131 = .ok (.getfield 7, 3) := by decide +kernel
theorem dX12_leaks_134 : decode cX12_leaks 134 = .ok (.bipush 6, 2) := by decide +kernel
theorem dX12_leaks_136 : decode cX12_leaks 136 = .ok (.iload_n 2, 1) := by decide +kernel
theorem dX12_leaks_137 : decode cX12_leaks 137 = .ok (.imul, 1) := by decide +kernel
theorem dX12_leaks_138 : decode cX12_leaks 138 = .ok (.iload_n 3, 1) := by decide +kernel
theorem dX12_leaks_139 : decode cX12_leaks 139 = .ok (.iadd, 1) := by decide +kernel
theorem dX12_leaks_140 : decode cX12_leaks 140 = .ok (.baload, 1) := by decide +kernel
theorem dX12_leaks_141 : decode cX12_leaks 141 = .ok (.ifCond .ne 7, 3) := by decide +kernel
theorem dX12_leaks_144 : decode cX12_leaks 144 = .ok (.iconst 1, 1) := by decide +kernel
theorem dX12_leaks_145 : decode cX12_leaks 145 = .ok (.goto 4, 3) := by decide +kernel
theorem dX12_leaks_148 : decode cX12_leaks 148 = .ok (.iconst 0, 1) := by decide +kernel
theorem dX12_leaks_149 : decode cX12_leaks 149 = .ok (.ireturn, 1) := by decide +kernel
theorem dX12_leaks_150 : decode cX12_leaks 150 = .ok (.iconst 0, 1) := by decide +kernel
theorem dX12_leaks_151 : decode cX12_leaks 151 = .ok (.ireturn, 1) := by decide +kernel
theorem dX12_heights_0 : decode cX12_heights 0 = .ok (.iconst 0, 1) := by decide +kernel
theorem dX12_heights_1 : decode cX12_heights 1 = .ok (.istore_n 1, 1) := by decide +kernel
theorem dX12_heights_2 : decode cX12_heights 2 = .ok (.iload_n 1, 1) := by decide +kernel
theorem dX12_heights_3 : decode cX12_heights 3 = .ok (.bipush 64, 2) := by decide +kernel
theorem dX12_heights_5 : decode cX12_heights 5 = .ok (.if_icmp .ge 23, 3) := by decide +kernel
theorem dX12_heights_8 : decode cX12_heights 8 = .ok (.aload_n 0, 1) := by decide +kernel
theorem dX12_heights_9 : decode cX12_heights 9 = .ok (.getfield 129, 3) := by decide +kernel
theorem dX12_heights_12 : decode cX12_heights 12 = .ok (.iload_n 1, 1) := by decide +kernel
theorem dX12_heights_13 : decode cX12_heights 13 = .ok (.iconst (-1), 1) := by decide +kernel
theorem dX12_heights_14 : decode cX12_heights 14 = .ok (.iastore, 1) := by decide +kernel
theorem dX12_heights_15 : decode cX12_heights 15 = .ok (.aload_n 0, 1) := by decide +kernel
theorem dX12_heights_16 : decode cX12_heights 16 = .ok (.getfield 132, 3) := by decide +kernel
theorem dX12_heights_19 : decode cX12_heights 19 = .ok (.iload_n 1, 1) := by decide +kernel
theorem dX12_heights_20 : decode cX12_heights 20 = .ok (.iconst 0, 1) := by decide +kernel
theorem dX12_heights_21 : decode cX12_heights 21 = .ok (.bastore, 1) := by decide +kernel
theorem dX12_heights_22 : decode cX12_heights 22 = .ok (.iinc 1 1, 3) := by decide +kernel
theorem dX12_heights_25 : decode cX12_heights 25 = .ok (.goto (-23), 3) := by decide +kernel
theorem dX12_heights_28 : decode cX12_heights 28 = .ok (.aload_n 0, 1) := by decide +kernel
theorem dX12_heights_29 : decode cX12_heights 29 = .ok (.getfield 129, 3) := by decide +kernel
theorem dX12_heights_32 : decode cX12_heights 32 = .ok (.iconst 0, 1) := by decide +kernel
theorem dX12_heights_33 : decode cX12_heights 33 = .ok (.iconst 0, 1) := by decide +kernel
theorem dX12_heights_34 : decode cX12_heights 34 = .ok (.iastore, 1) := by decide +kernel
theorem dX12_heights_35 : decode cX12_heights 35 = .ok (.aload_n 0, 1) := by decide +kernel
theorem dX12_heights_36 : decode cX12_heights 36 = .ok (.invokevirtual 448, 3) := by decide +kernel
theorem dX12_heights_39 : decode cX12_heights 39 = .ok (.istore_n 1, 1) := by decide +kernel
theorem dX12_heights_40 : decode cX12_heights 40 = .ok (.iload_n 1, 1) := by decide +kernel
theorem dX12_heights_41 : decode cX12_heights 41 = .ok (.ifCond .lt 29, 3) := by decide +kernel
theorem dX12_heights_44 : decode cX12_heights 44 = .ok (.aload_n 0, 1) := by decide +kernel
theorem dX12_heights_45 : decode cX12_heights 45 = .ok (.iload_n 1, 1) := by decide +kernel
theorem dX12_heights_46 : decode cX12_heights 46 = .ok (.invokevirtual 451, 3) := by decide +kernel
theorem dX12_heights_49 : decode cX12_heights 49 = .ok (.istore_n 2, 1) := by decide +kernel
theorem dX12_heights_50 : decode cX12_heights 50 = .ok (.iload_n 2, 1) := by decide +kernel
theorem dX12_heights_51 : decode cX12_heights 51 = .ok (.ifCond .le 11, 3) := by decide +kernel
theorem dX12_heights_54 : decode cX12_heights 54 = .ok (.aload_n 0, 1) := by decide +kernel
theorem dX12_heights_55 : decode cX12_heights 55 = .ok (.iload_n 1, 1) := by decide +kernel
theorem dX12_heights_56 : decode cX12_heights 56 = .ok (.iload_n 2, 1) := by decide +kernel
theorem dX12_heights_57 : decode cX12_heights 57 = .ok (.iconst 2, 1) := by decide +kernel
theorem dX12_heights_58 : decode cX12_heights 58 = .ok (.invokevirtual 206, 3) := by decide +kernel
theorem dX12_heights_61 : decode cX12_heights 61 = .ok (.ireturn, 1) := by decide +kernel
theorem dX12_heights_62 : decode cX12_heights 62 = .ok (.aload_n 0, 1) := by decide +kernel
theorem dX12_heights_63 : decode cX12_heights 63 = .ok (.invokevirtual 448, 3) := by decide +kernel
theorem dX12_heights_66 : decode cX12_heights 66 = .ok (.istore_n 1, 1) := by decide +kernel
theorem dX12_heights_67 : decode cX12_heights 67 = .ok (.goto (-27), 3) := by decide +kernel
theorem dX12_heights_70 : decode cX12_heights 70 = .ok (.iconst 0, 1) := by decide +kernel
theorem dX12_heights_71 : decode cX12_heights 71 = .ok (.ireturn, 1) := by decide +kernel
theorem dX12_verify_0 : decode cX12_verify 0 = .ok (.aload_n 0, 1) := by decide +kernel
theorem dX12_verify_1 : decode cX12_verify 1 = .ok (.iconst 0, 1) := by decide +kernel
theorem dX12_verify_2 : decode cX12_verify 2 = .ok (.putfield 183, 3) := by decide +kernel
theorem dX12_verify_5 : decode cX12_verify 5 = .ok (.aload_n 0, 1) := by decide +kernel
theorem dX12_verify_6 : decode cX12_verify 6 = .ok (.getfield 194, 3) := by decide +kernel
theorem dX12_verify_9 : decode cX12_verify 9 = .ok (.ifCond .eq 10, 3) := by decide +kernel
theorem dX12_verify_12 : decode cX12_verify 12 = .ok (.aload_n 0, 1) := by decide +kernel
theorem dX12_verify_13 : decode cX12_verify 13 = .ok (.getfield 406, 3) := by decide +kernel
theorem dX12_verify_16 : decode cX12_verify 16 = .ok (.ifCond .ne 9, 3) := by decide +kernel
theorem dX12_verify_19 : decode cX12_verify 19 = .ok (.aload_n 0, 1) := by decide +kernel
theorem dX12_verify_20 : decode cX12_verify 20 = .ok (.iconst 1, 1) := by decide +kernel
theorem dX12_verify_21 : decode cX12_verify 21 = .ok (.invokevirtual 190, 3) := by decide +kernel
theorem dX12_verify_24 : decode cX12_verify 24 = .ok (.ireturn, 1) := by decide +kernel
theorem dX12_verify_25 : decode cX12_verify 25 = .ok (.aload_n 0, 1) := by decide +kernel
theorem dX12_verify_26 : decode cX12_verify 26 = .ok (.iconst 0, 1) := by decide +kernel
theorem dX12_verify_27 : decode cX12_verify 27 = .ok (.putfield 409, 3) := by decide +kernel
theorem dX12_verify_30 : decode cX12_verify 30 = .ok (.aload_n 0, 1) := by decide +kernel
theorem dX12_verify_31 : decode cX12_verify 31 = .ok (.iconst 0, 1) := by decide +kernel
theorem dX12_verify_32 : decode cX12_verify 32 = .ok (.putfield 412, 3) := by decide +kernel
theorem dX12_verify_35 : decode cX12_verify 35 = .ok (.iconst 0, 1) := by decide +kernel
theorem dX12_verify_36 : decode cX12_verify 36 = .ok (.istore_n 1, 1) := by decide +kernel
theorem dX12_verify_37 : decode cX12_verify 37 = .ok (.iload_n 1, 1) := by decide +kernel
theorem dX12_verify_38 : decode cX12_verify 38 = .ok (.aload_n 0, 1) := by decide +kernel
theorem dX12_verify_39 : decode cX12_verify 39 = .ok (.getfield 406, 3) := by decide +kernel
theorem dX12_verify_42 : decode cX12_verify 42 = .ok (.if_icmp .ge 25, 3) := by decide +kernel
theorem dX12_verify_45 : decode cX12_verify 45 = .ok (.aload_n 0, 1) := by decide +kernel
theorem dX12_verify_46 : decode cX12_verify 46 = .ok (.iload_n 1, 1) := by decide +kernel
theorem dX12_verify_47 : decode cX12_verify 47 = .ok (.invokevirtual 454, 3) := by decide +kernel
theorem dX12_verify_50 : decode cX12_verify 50 = .ok (.ifCond .ne 11, 3) := by decide +kernel
theorem dX12_verify_53 : decode cX12_verify 53 = .ok (.aload_n 0, 1) := by decide +kernel
theorem dX12_verify_54 : decode cX12_verify 54 = .ok (.iload_n 1, 1) := by decide +kernel
theorem dX12_verify_55 : decode cX12_verify 55 = .ok (.iconst 1, 1) := by decide +kernel
theorem dX12_verify_56 : decode cX12_verify 56 = .ok (.iconst 2, 1) := by decide +kernel
theorem dX12_verify_57 : decode cX12_verify 57 = .ok (.invokevirtual 206, 3) := by decide +kernel
theorem dX12_verify_60 : decode cX12_verify 60 = .ok (.ireturn, 1) := by decide +kernel
theorem dX12_verify_61 : decode cX12_verify 61 = .ok (.iinc 1 1, 3) := by decide +kernel
theorem dX12_verify_64 : decode cX12_verify 64 = .ok (.goto (-27), 3) := by decide +kernel
theorem dX12_verify_67 : decode cX12_verify 67 = .ok (.aload_n 0, 1) := by decide +kernel
theorem dX12_verify_68 : decode cX12_verify 68 = .ok (.getfield 30, 3) := by decide +kernel
theorem dX12_verify_71 : decode cX12_verify 71 = .ok (.aload_n 0, 1) := by decide +kernel
theorem dX12_verify_72 : decode cX12_verify 72 = .ok (.getfield 406, 3) := by decide +kernel
theorem dX12_verify_75 : decode cX12_verify 75 = .ok (.iconst 1, 1) := by decide +kernel
theorem dX12_verify_76 : decode cX12_verify 76 = .ok (.isub, 1) := by decide +kernel
theorem dX12_verify_77 : decode cX12_verify 77 = .ok (.iaload, 1) := by decide +kernel
theorem dX12_verify_78 : decode cX12_verify 78 = .ok (.bipush 12, 2) := by decide +kernel
theorem dX12_verify_80 : decode cX12_verify 80 = .ok (.if_icmp .eq 32, 3) := by decide +kernel
theorem dX12_verify_83 : decode cX12_verify 83 = .ok (.aload_n 0, 1) := by decide +kernel
theorem dX12_verify_84 : decode cX12_verify 84 = .ok (.getfield 30, 3) := by decide +kernel
theorem dX12_verify_87 : decode cX12_verify 87 = .ok (.aload_n 0, 1) := by decide +kernel
theorem dX12_verify_88 : decode cX12_verify 88 = .ok (.getfield 406, 3) := by decide +kernel
theorem dX12_verify_91 : decode cX12_verify 91 = .ok (.iconst 1, 1) := by decide +kernel
theorem dX12_verify_92 : decode cX12_verify 92 = .ok (.isub, 1) := by decide +kernel
theorem dX12_verify_93 : decode cX12_verify 93 = .ok (.iaload, 1) := by decide +kernel
theorem dX12_verify_94 : decode cX12_verify 94 = .ok (.bipush 15, 2) := by decide +kernel
theorem dX12_verify_96 : decode cX12_verify 96 = .ok (.if_icmp .eq 16, 3) := by decide +kernel
theorem dX12_verify_99 : decode cX12_verify 99 = .ok (.aload_n 0, 1) := by decide +kernel
theorem dX12_verify_100 : decode cX12_verify 100 = .ok (.aload_n 0, 1) := by decide +kernel
theorem dX12_verify_101 : decode cX12_verify 101 = .ok (.getfield 406, 3) := by decide +kernel
theorem dX12_verify_104 : decode cX12_verify 104 = .ok (.iconst 1, 1) := by decide +kernel
theorem dX12_verify_105 : decode cX12_verify 105 = .ok (.isub, 1) := by decide +kernel
theorem dX12_verify_106 : decode cX12_verify 106 = .ok (.iconst 2, 1) := by decide +kernel
theorem dX12_verify_107 : decode cX12_verify 107 = .ok (.iconst 2, 1) := by decide +kernel
theorem dX12_verify_108 : decode cX12_verify 108 = .ok (.invokevirtual 206, 3) := by decide +kernel
theorem dX12_verify_111 : decode cX12_verify 111 = .ok (.ireturn, 1) := by decide +kernel
theorem dX12_verify_112 : decode cX12_verify 112 = .ok (.aload_n 0, 1) := by decide +kernel
theorem dX12_verify_113 : decode cX12_verify 113 = .ok (.invokevirtual 457, 3) := by decide +kernel
theorem dX12_verify_116 : decode cX12_verify 116 = .ok (.istore_n 1, 1) := by decide +kernel
theorem dX12_verify_117 : decode cX12_verify 117 = .ok (.aload_n 0, 1) := by decide +kernel
theorem dX12_verify_118 : decode cX12_verify 118 = .ok (.getfield 183, 3) := by decide +kernel
theorem dX12_verify_121 : decode cX12_verify 121 = .ok (.ifCond .le 5, 3) := by decide +kernel
theorem dX12_verify_124 : decode cX12_verify 124 = .ok (.iconst 0, 1) := by decide +kernel
theorem dX12_verify_125 : decode cX12_verify 125 = .ok (.ireturn, 1) := by decide +kernel
theorem dX12_verify_126 : decode cX12_verify 126 = .ok (.aload_n 0, 1) := by decide +kernel
theorem dX12_verify_127 : decode cX12_verify 127 = .ok (.invokevirtual 460, 3) := by decide +kernel
theorem dX12_verify_130 : decode cX12_verify 130 = .ok (.aload_n 0, 1) := by decide +kernel
theorem dX12_verify_131 : decode cX12_verify 131 = .ok (.invokevirtual 463, 3) := by decide +kernel
theorem dX12_verify_134 : decode cX12_verify 134 = .ok (.aload_n 0, 1) := by decide +kernel
theorem dX12_verify_135 : decode cX12_verify 135 = .ok (.iconst 1, 1) := by decide +kernel
theorem dX12_verify_136 : decode cX12_verify 136 = .ok (.putfield 412, 3) := by decide +kernel
theorem dX12_verify_139 : decode cX12_verify 139 = .ok (.iconst 0, 1) := by decide +kernel
theorem dX12_verify_140 : decode cX12_verify 140 = .ok (.istore_n 2, 1) := by decide +kernel
theorem dX12_verify_141 : decode cX12_verify 141 = .ok (.iconst 0, 1) := by decide +kernel
theorem dX12_verify_142 : decode cX12_verify 142 = .ok (.istore_n 3, 1) := by decide +kernel
theorem dX12_verify_143 : decode cX12_verify 143 = .ok (.iload_n 3, 1) := by decide +kernel
theorem dX12_verify_144 : decode cX12_verify 144 = .ok (.aload_n 0, 1) := by decide +kernel
theorem dX12_verify_145 : decode cX12_verify 145 = .ok (.getfield 406, 3) := by decide +kernel
theorem dX12_verify_148 : decode cX12_verify 148 = .ok (.if_icmp .ge 41, 3) := by decide +kernel
theorem dX12_verify_151 : decode cX12_verify 151 = .ok (.aload_n 0, 1) := by decide +kernel
theorem dX12_verify_152 : decode cX12_verify 152 = .ok (.getfield 129, 3) := by decide +kernel
theorem dX12_verify_155 : decode cX12_verify 155 = .ok (.iload_n 3, 1) := by decide +kernel
theorem dX12_verify_156 : decode cX12_verify 156 = .ok (.iaload, 1) := by decide +kernel
theorem dX12_verify_157 : decode cX12_verify 157 = .ok (.ifCond .ge 6, 3) := by decide +kernel
theorem dX12_verify_160 : decode cX12_verify 160 = .ok (.goto 23, 3) := by decide +kernel
theorem dX12_verify_163 : decode cX12_verify 163 = .ok (.iinc 2 1, 3) := by decide +kernel
theorem dX12_verify_166 : decode cX12_verify 166 = .ok (.aload_n 0, 1) := by decide +kernel
theorem dX12_verify_167 : decode cX12_verify 167 = .ok (.iload_n 3, 1) := by decide +kernel
theorem dX12_verify_168 : decode cX12_verify 168 = .ok (.invokevirtual 466, 3) := by decide +kernel
theorem dX12_verify_171 : decode cX12_verify 171 = .ok (.ifCond .eq 12, 3) := by decide +kernel
theorem dX12_verify_174 : decode cX12_verify 174 = .ok (.aload_n 0, 1) := by decide +kernel
theorem dX12_verify_175 : decode cX12_verify 175 = .ok (.iload_n 3, 1) := by decide +kernel
theorem dX12_verify_176 : decode cX12_verify 176 = .ok (.bipush 6, 2) := by decide +kernel
theorem dX12_verify_178 : decode cX12_verify 178 = .ok (.iconst 2, 1) := by decide +kernel
theorem dX12_verify_179 : decode cX12_verify 179 = .ok (.invokevirtual 206, 3) := by decide +kernel
theorem dX12_verify_182 : decode cX12_verify 182 = .ok (.ireturn, 1) := by decide +kernel
theorem dX12_verify_183 : decode cX12_verify 183 = .ok (.iinc 3 1, 3) := by decide +kernel
theorem dX12_verify_186 : decode cX12_verify 186 = .ok (.goto (-43), 3) := by decide +kernel
theorem dX12_verify_189 : decode cX12_verify 189 = .ok (.aload_n 0, 1) := by decide +kernel
theorem dX12_verify_190 : decode cX12_verify 190 = .ok (.iconst (-1), 1) := by decide +kernel
theorem dX12_verify_191 : decode cX12_verify 191 = .ok (.putfield 20, 3) := by decide +kernel
theorem dX12_verify_194 : decode cX12_verify 194 = .ok (.aload_n 0, 1) := by decide +kernel
theorem dX12_verify_195 : decode cX12_verify 195 = .ok (.iconst (-1), 1) := by decide +kernel
theorem dX12_verify_196 : decode cX12_verify 196 = .ok (.putfield 24, 3) := by decide +kernel
theorem dX12_verify_199 : decode cX12_verify 199 = .ok (.aload_n 0, 1) := by decide +kernel
theorem dX12_verify_200 : decode cX12_verify 200 = .ok (.iconst 1, 1) := by decide +kernel
theorem dX12_verify_201 : decode cX12_verify 201 = .ok (.putfield 409, 3) := by decide +kernel
theorem dX12_verify_204 : decode cX12_verify 204 = .ok (.iload_n 2, 1) := by decide +kernel
theorem dX12_verify_205 : decode cX12_verify 205 = .ok (.ireturn, 1) := by decide +kernel
theorem dX12_map_0 : decode cX12_map 0 = .ok (.aload_n 0, 1) := by decide +kernel
theorem dX12_map_1 : decode cX12_map 1 = .ok (.iconst 0, 1) := by decide +kernel
theorem dX12_map_2 : decode cX12_map 2 = .ok (.putfield 183, 3) := by decide +kernel
theorem dX12_map_5 : decode cX12_map 5 = .ok (.aload_n 0, 1) := by decide +kernel
theorem dX12_map_6 : decode cX12_map 6 = .ok (.iload_n 2, 1) := by decide +kernel
theorem dX12_map_7 : decode cX12_map 7 = .ok (.bipush 58, 2) := by decide +kernel
theorem dX12_map_9 : decode cX12_map 9 = .ok (.invokevirtual 186, 3) := by decide +kernel
theorem dX12_map_12 : decode cX12_map 12 = .ok (.ifCond .eq 9, 3) := by decide +kernel
theorem dX12_map_15 : decode cX12_map 15 = .ok (.aload_n 0, 1) := by decide +kernel
theorem dX12_map_16 : decode cX12_map 16 = .ok (.iconst 1, 1) := by decide +kernel
theorem dX12_map_17 : decode cX12_map 17 = .ok (.invokevirtual 190, 3) := by decide +kernel
theorem dX12_map_20 : decode cX12_map 20 = .ok (.ireturn, 1) := by decide +kernel
theorem dX12_map_21 : decode cX12_map 21 = .ok (.aload_n 0, 1) := by decide +kernel
theorem dX12_map_22 : decode cX12_map 22 = .ok (.getfield 412, 3) := by decide +kernel
theorem dX12_map_25 : decode cX12_map 25 = .ok (.ifCond .ne 9, 3) := by decide +kernel
theorem dX12_map_28 : decode cX12_map 28 = .ok (.aload_n 0, 1) := by decide +kernel
theorem dX12_map_29 : decode cX12_map 29 = .ok (.iconst 2, 1) := by decide +kernel
theorem dX12_map_30 : decode cX12_map 30 = .ok (.invokevirtual 190, 3) := by decide +kernel
theorem dX12_map_33 : decode cX12_map 33 = .ok (.ireturn, 1) := by decide +kernel
theorem dX12_map_34 : decode cX12_map 34 = .ok (.aload_n 0, 1) := by decide +kernel
theorem dX12_map_35 : decode cX12_map 35 = .ok (.iload_n 1, 1) := by decide +kernel
theorem dX12_map_36 : decode cX12_map 36 = .ok (.aload_n 0, 1) := by decide +kernel
theorem dX12_map_37 : decode cX12_map 37 = .ok (.getfield 406, 3) := by decide +kernel
theorem dX12_map_40 : decode cX12_map 40 = .ok (.invokevirtual 186, 3) := by decide +kernel
theorem dX12_map_43 : decode cX12_map 43 = .ok (.ifCond .eq 9, 3) := by decide +kernel
theorem dX12_map_46 : decode cX12_map 46 = .ok (.aload_n 0, 1) := by decide +kernel
theorem dX12_map_47 : decode cX12_map 47 = .ok (.iconst 3, 1) := by decide +kernel
theorem dX12_map_48 : decode cX12_map 48 = .ok (.invokevirtual 190, 3) := by decide +kernel
theorem dX12_map_51 : decode cX12_map 51 = .ok (.ireturn, 1) := by decide +kernel
theorem dX12_map_52 : decode cX12_map 52 = .ok (.aload_n 0, 1) := by decide +kernel
theorem dX12_map_53 : decode cX12_map 53 = .ok (.getfield 129, 3) := by decide +kernel
theorem dX12_map_56 : decode cX12_map 56 = .ok (.iload_n 1, 1) := by decide +kernel
theorem dX12_map_57 : decode cX12_map 57 = .ok (.iaload, 1) := by decide +kernel
theorem dX12_map_58 : decode cX12_map 58 = .ok (.ifCond .ge 6, 3) := by decide +kernel
theorem dX12_map_61 : decode cX12_map 61 = .ok (.bipush (-2), 2) := by decide +kernel
theorem dX12_map_63 : decode cX12_map 63 = .ok (.ireturn, 1) := by decide +kernel
theorem dX12_map_64 : decode cX12_map 64 = .ok (.iload_n 2, 1) := by decide +kernel
theorem dX12_map_65 : decode cX12_map 65 = .ok (.bipush 26, 2) := by decide +kernel
theorem dX12_map_67 : decode cX12_map 67 = .ok (.if_icmp .ge 15, 3) := by decide +kernel
theorem dX12_map_70 : decode cX12_map 70 = .ok (.aload_n 0, 1) := by decide +kernel
theorem dX12_map_71 : decode cX12_map 71 = .ok (.getfield 144, 3) := by decide +kernel
theorem dX12_map_74 : decode cX12_map 74 = .ok (.bipush 56, 2) := by decide +kernel
theorem dX12_map_76 : decode cX12_map 76 = .ok (.iload_n 1, 1) := by decide +kernel
theorem dX12_map_77 : decode cX12_map 77 = .ok (.imul, 1) := by decide +kernel
theorem dX12_map_78 : decode cX12_map 78 = .ok (.iload_n 2, 1) := by decide +kernel
theorem dX12_map_79 : decode cX12_map 79 = .ok (.iadd, 1) := by decide +kernel
theorem dX12_map_80 : decode cX12_map 80 = .ok (.iaload, 1) := by decide +kernel
theorem dX12_map_81 : decode cX12_map 81 = .ok (.ireturn, 1) := by decide +kernel
theorem dX12_map_82 : decode cX12_map 82 = .ok (.iload_n 2, 1) := by decide +kernel
theorem dX12_map_83 : decode cX12_map 83 = .ok (.bipush 26, 2) := by decide +kernel
theorem dX12_map_85 : decode cX12_map 85 = .ok (.if_icmp .ne 10, 3) := by decide +kernel
theorem dX12_map_88 : decode cX12_map 88 = .ok (.aload_n 0, 1) := by decide +kernel
theorem dX12_map_89 : decode cX12_map 89 = .ok (.getfield 141, 3) := by decide +kernel
theorem dX12_map_92 : decode cX12_map 92 = .ok (.iload_n 1, 1) := by decide +kernel
theorem dX12_map_93 : decode cX12_map 93 = .ok (.iaload, 1) := by decide +kernel
theorem dX12_map_94 : decode cX12_map 94 = .ok (.ireturn, 1) := by decide +kernel
theorem dX12_map_95 : decode cX12_map 95 = .ok (.iload_n 2, 1) := by decide +kernel
theorem dX12_map_96 : decode cX12_map 96 = .ok (.bipush 27, 2) := by decide +kernel
theorem dX12_map_98 : decode cX12_map 98 = .ok (.if_icmp .ne 10, 3) := by decide +kernel
theorem dX12_map_101 : decode cX12_map 101 = .ok (.aload_n 0, 1) := by decide +kernel
theorem dX12_map_102 : decode cX12_map 102 = .ok (.getfield 129, 3) := by decide +kernel
theorem dX12_map_105 : decode cX12_map 105 = .ok (.iload_n 1, 1) := by decide +kernel
theorem dX12_map_106 : decode cX12_map 106 = .ok (.iaload, 1) := by decide +kernel
theorem dX12_map_107 : decode cX12_map 107 = .ok (.ireturn, 1) := by decide +kernel
theorem dX12_map_108 : decode cX12_map 108 = .ok (.iload_n 2, 1) := by decide +kernel
theorem dX12_map_109 : decode cX12_map 109 = .ok (.bipush 28, 2) := by decide +kernel
theorem dX12_map_111 : decode cX12_map 111 = .ok (.isub, 1) := by decide +kernel
theorem dX12_map_112 : decode cX12_map 112 = .ok (.aload_n 0, 1) := by decide +kernel
theorem dX12_map_113 : decode cX12_map 113 = .ok (.getfield 129, 3) := by decide +kernel
theorem dX12_map_116 : decode cX12_map 116 = .ok (.iload_n 1, 1) := by decide +kernel
theorem dX12_map_117 : decode cX12_map 117 = .ok (.iaload, 1) := by decide +kernel
theorem dX12_map_118 : decode cX12_map 118 = .ok (.if_icmp .ge 19, 3) := by decide +kernel
theorem dX12_map_121 : decode cX12_map 121 = .ok (.aload_n 0, 1) := by decide +kernel
theorem dX12_map_122 : decode cX12_map 122 = .ok (.getfield 144, 3) := by decide +kernel
theorem dX12_map_125 : decode cX12_map 125 = .ok (.bipush 56, 2) := by decide +kernel
theorem dX12_map_127 : decode cX12_map 127 = .ok (.iload_n 1, 1) := by decide +kernel
theorem dX12_map_128 : decode cX12_map 128 = .ok (.imul, 1) := by decide +kernel
theorem dX12_map_129 : decode cX12_map 129 = .ok (.iload_n 2, 1) := by decide +kernel
theorem dX12_map_130 : decode cX12_map 130 = .ok (.iadd, 1) := by decide +kernel
theorem dX12_map_131 : decode cX12_map 131 = .ok (.iconst 2, 1) := by decide +kernel
theorem dX12_map_132 : decode cX12_map 132 = .ok (.isub, 1) := by decide +kernel
theorem dX12_map_133 : decode cX12_map 133 = .ok (.iaload, 1) := by decide +kernel
theorem dX12_map_134 : decode cX12_map 134 = .ok (.goto 4, 3) := by decide +kernel
theorem dX12_map_137 : decode cX12_map 137 = .ok (.iconst (-1), 1) := by decide +kernel
theorem dX12_map_138 : decode cX12_map 138 = .ok (.ireturn, 1) := by decide +kernel
theorem dX12_region_0 : decode cX12_region 0 = .ok (.aload_n 0, 1) := by decide +kernel
theorem dX12_region_1 : decode cX12_region 1 = .ok (.iconst 0, 1) := by decide +kernel
theorem dX12_region_2 : decode cX12_region 2 = .ok (.putfield 183, 3) := by decide +kernel
theorem dX12_region_5 : decode cX12_region 5 = .ok (.iload_n 2, 1) := by decide +kernel
theorem dX12_region_6 : decode cX12_region 6 = .ok (.iconst (-1), 1) := by decide +kernel
theorem dX12_region_7 : decode cX12_region 7 = .ok (.if_icmp .lt 9, 3) := by decide +kernel
theorem dX12_region_10 : decode cX12_region 10 = .ok (.iload_n 2, 1) := by decide +kernel
theorem dX12_region_11 : decode cX12_region 11 = .ok (.bipush 63, 2) := by decide +kernel
theorem dX12_region_13 : decode cX12_region 13 = .ok (.if_icmp .le 9, 3) := by decide +kernel
theorem dX12_region_16 : decode cX12_region 16 = .ok (.aload_n 0, 1) := by decide +kernel
theorem dX12_region_17 : decode cX12_region 17 = .ok (.iconst 1, 1) := by decide +kernel
theorem dX12_region_18 : decode cX12_region 18 = .ok (.invokevirtual 190, 3) := by decide +kernel
theorem dX12_region_21 : decode cX12_region 21 = .ok (.ireturn, 1) := by decide +kernel
theorem dX12_region_22 : decode cX12_region 22 = .ok (.aload_n 0, 1) := by decide +kernel
theorem dX12_region_23 : decode cX12_region 23 = .ok (.getfield 412, 3) := by decide +kernel
theorem dX12_region_26 : decode cX12_region 26 = .ok (.ifCond .ne 9, 3) := by decide +kernel
theorem dX12_region_29 : decode cX12_region 29 = .ok (.aload_n 0, 1) := by decide +kernel
theorem dX12_region_30 : decode cX12_region 30 = .ok (.iconst 2, 1) := by decide +kernel
theorem dX12_region_31 : decode cX12_region 31 = .ok (.invokevirtual 190, 3) := by decide +kernel
theorem dX12_region_34 : decode cX12_region 34 = .ok (.ireturn, 1) := by decide +kernel
theorem dX12_region_35 : decode cX12_region 35 = .ok (.aload_n 0, 1) := by decide +kernel
theorem dX12_region_36 : decode cX12_region 36 = .ok (.iload_n 1, 1) := by decide +kernel
theorem dX12_region_37 : decode cX12_region 37 = .ok (.aload_n 0, 1) := by decide +kernel
theorem dX12_region_38 : decode cX12_region 38 = .ok (.getfield 406, 3) := by decide +kernel
theorem dX12_region_41 : decode cX12_region 41 = .ok (.invokevirtual 186, 3) := by decide +kernel
theorem dX12_region_44 : decode cX12_region 44 = .ok (.ifCond .ne 11, 3) := by decide +kernel
theorem dX12_region_47 : decode cX12_region 47 = .ok (.iload_n 2, 1) := by decide +kernel
theorem dX12_region_48 : decode cX12_region 48 = .ok (.aload_n 0, 1) := by decide +kernel
theorem dX12_region_49 : decode cX12_region 49 = .ok (.getfield 406, 3) := by decide +kernel
theorem dX12_region_52 : decode cX12_region 52 = .ok (.if_icmp .lt 9, 3) := by decide +kernel
theorem dX12_region_55 : decode cX12_region 55 = .ok (.aload_n 0, 1) := by decide +kernel
theorem dX12_region_56 : decode cX12_region 56 = .ok (.iconst 3, 1) := by decide +kernel
theorem dX12_region_57 : decode cX12_region 57 = .ok (.invokevirtual 190, 3) := by decide +kernel
theorem dX12_region_60 : decode cX12_region 60 = .ok (.ireturn, 1) := by decide +kernel
theorem dX12_region_61 : decode cX12_region 61 = .ok (.aload_n 0, 1) := by decide +kernel
theorem dX12_region_62 : decode cX12_region 62 = .ok (.getfield 30, 3) := by decide +kernel
theorem dX12_region_65 : decode cX12_region 65 = .ok (.iload_n 1, 1) := by decide +kernel
theorem dX12_region_66 : decode cX12_region 66 = .ok (.iaload, 1) := by decide +kernel
theorem dX12_region_67 : decode cX12_region 67 = .ok (.bipush 11, 2) := by decide +kernel
theorem dX12_region_69 : decode cX12_region 69 = .ok (.if_icmp .ne 12, 3) := by decide +kernel
theorem dX12_region_72 : decode cX12_region 72 = .ok (.aload_n 0, 1) := by decide +kernel
theorem dX12_region_73 : decode cX12_region 73 = .ok (.getfield 129, 3) := by decide +kernel
theorem dX12_region_76 : decode cX12_region 76 = .ok (.iload_n 1, 1) := by decide +kernel
theorem dX12_region_77 : decode cX12_region 77 = .ok (.iaload, 1) := by decide +kernel
theorem dX12_region_78 : decode cX12_region 78 = .ok (.ifCond .ge 9, 3) := by decide +kernel
theorem dX12_region_81 : decode cX12_region 81 = .ok (.aload_n 0, 1) := by decide +kernel
theorem dX12_region_82 : decode cX12_region 82 = .ok (.iconst 4, 1) := by decide +kernel
theorem dX12_region_83 : decode cX12_region 83 = .ok (.invokevirtual 190, 3) := by decide +kernel
theorem dX12_region_86 : decode cX12_region 86 = .ok (.ireturn, 1) := by decide +kernel
theorem dX12_region_87 : decode cX12_region 87 = .ok (.iload_n 2, 1) := by decide +kernel
theorem dX12_region_88 : decode cX12_region 88 = .ok (.ifCond .ge 10, 3) := by decide +kernel
theorem dX12_region_91 : decode cX12_region 91 = .ok (.aload_n 0, 1) := by decide +kernel
theorem dX12_region_92 : decode cX12_region 92 = .ok (.getfield 135, 3) := by decide +kernel
theorem dX12_region_95 : decode cX12_region 95 = .ok (.iload_n 1, 1) := by decide +kernel
theorem dX12_region_96 : decode cX12_region 96 = .ok (.iaload, 1) := by decide +kernel
theorem dX12_region_97 : decode cX12_region 97 = .ok (.ireturn, 1) := by decide +kernel
theorem dX12_region_98 : decode cX12_region 98 = .ok (.aload_n 0, 1) := by decide +kernel
theorem dX12_region_99 : decode cX12_region 99 = .ok (.getfield 138, 3) := by decide +kernel
theorem dX12_region_102 : decode cX12_region 102 = .ok (.bipush 64, 2) := by decide +kernel
theorem dX12_region_104 : decode cX12_region 104 = .ok (.iload_n 1, 1) := by decide +kernel
theorem dX12_region_105 : decode cX12_region 105 = .ok (.imul, 1) := by decide +kernel
theorem dX12_region_106 : decode cX12_region 106 = .ok (.iload_n 2, 1) := by decide +kernel
theorem dX12_region_107 : decode cX12_region 107 = .ok (.iadd, 1) := by decide +kernel
theorem dX12_region_108 : decode cX12_region 108 = .ok (.baload, 1) := by decide +kernel
theorem dX12_region_109 : decode cX12_region 109 = .ok (.ifCond .eq 7, 3) := by decide +kernel
theorem dX12_region_112 : decode cX12_region 112 = .ok (.iconst 1, 1) := by decide +kernel
theorem dX12_region_113 : decode cX12_region 113 = .ok (.goto 4, 3) := by decide +kernel
theorem dX12_region_116 : decode cX12_region 116 = .ok (.iconst 0, 1) := by decide +kernel
theorem dX12_region_117 : decode cX12_region 117 = .ok (.ireturn, 1) := by decide +kernel
theorem dX12_feed_0 : decode cX12_feed 0 = .ok (.aload_n 0, 1) := by decide +kernel
theorem dX12_feed_1 : decode cX12_feed 1 = .ok (.iconst 0, 1) := by decide +kernel
theorem dX12_feed_2 : decode cX12_feed 2 = .ok (.putfield 183, 3) := by decide +kernel
theorem dX12_feed_5 : decode cX12_feed 5 = .ok (.aload_n 0, 1) := by decide +kernel
theorem dX12_feed_6 : decode cX12_feed 6 = .ok (.iload_n 1, 1) := by decide +kernel
theorem dX12_feed_7 : decode cX12_feed 7 = .ok (.aload_n 0, 1) := by decide +kernel
theorem dX12_feed_8 : decode cX12_feed 8 = .ok (.getfield 180, 3) := by decide +kernel
theorem dX12_feed_11 : decode cX12_feed 11 = .ok (.invokevirtual 186, 3) := by decide +kernel
theorem dX12_feed_14 : decode cX12_feed 14 = .ok (.ifCond .eq 9, 3) := by decide +kernel
theorem dX12_feed_17 : decode cX12_feed 17 = .ok (.aload_n 0, 1) := by decide +kernel
theorem dX12_feed_18 : decode cX12_feed 18 = .ok (.iconst 1, 1) := by decide +kernel
theorem dX12_feed_19 : decode cX12_feed 19 = .ok (.invokevirtual 190, 3) := by decide +kernel
theorem dX12_feed_22 : decode cX12_feed 22 = .ok (.ireturn, 1) := by decide +kernel
theorem dX12_feed_23 : decode cX12_feed 23 = .ok (.aload_n 0, 1) := by decide +kernel
theorem dX12_feed_24 : decode cX12_feed 24 = .ok (.getfield 159, 3) := by decide +kernel
theorem dX12_feed_27 : decode cX12_feed 27 = .ok (.iload_n 1, 1) := by decide +kernel
theorem dX12_feed_28 : decode cX12_feed 28 = .ok (.iaload, 1) := by decide +kernel
theorem dX12_feed_29 : decode cX12_feed 29 = .ok (.bipush 20, 2) := by decide +kernel
theorem dX12_feed_31 : decode cX12_feed 31 = .ok (.if_icmp .ne 9, 3) := by decide +kernel
theorem dX12_feed_34 : decode cX12_feed 34 = .ok (.aload_n 0, 1) := by decide +kernel
theorem dX12_feed_35 : decode cX12_feed 35 = .ok (.iconst 2, 1) := by decide +kernel
theorem dX12_feed_36 : decode cX12_feed 36 = .ok (.invokevirtual 190, 3) := by decide +kernel
theorem dX12_feed_39 : decode cX12_feed 39 = .ok (.ireturn, 1) := by decide +kernel
theorem dX12_feed_40 : decode cX12_feed 40 = .ok (.aload_n 0, 1) := by decide +kernel
theorem dX12_feed_41 : decode cX12_feed 41 = .ok (.getfield 156, 3) := by decide +kernel
theorem dX12_feed_44 : decode cX12_feed 44 = .ok (.bipush 20, 2) := by decide +kernel
theorem dX12_feed_46 : decode cX12_feed 46 = .ok (.iload_n 1, 1) := by decide +kernel
theorem dX12_feed_47 : decode cX12_feed 47 = .ok (.imul, 1) := by decide +kernel
theorem dX12_feed_48 : decode cX12_feed 48 = .ok (.aload_n 0, 1) := by decide +kernel
theorem dX12_feed_49 : decode cX12_feed 49 = .ok (.getfield 159, 3) := by decide +kernel
theorem dX12_feed_52 : decode cX12_feed 52 = .ok (.iload_n 1, 1) := by decide +kernel
theorem dX12_feed_53 : decode cX12_feed 53 = .ok (.iaload, 1) := by decide +kernel
theorem dX12_feed_54 : decode cX12_feed 54 = .ok (.iadd, 1) := by decide +kernel
theorem dX12_feed_55 : decode cX12_feed 55 = .ok (.iload_n 2, 1) := by decide +kernel
theorem dX12_feed_56 : decode cX12_feed 56 = .ok (.iastore, 1) := by decide +kernel
theorem dX12_feed_57 : decode cX12_feed 57 = .ok (.aload_n 0, 1) := by decide +kernel
theorem dX12_feed_58 : decode cX12_feed 58 = .ok (.getfield 159, 3) := by decide +kernel
theorem dX12_feed_61 : decode cX12_feed 61 = .ok (.iload_n 1, 1) := by decide +kernel
theorem dX12_feed_62 : decode cX12_feed 62 = .ok (.dup2, 1) := by decide +kernel
theorem dX12_feed_63 : decode cX12_feed 63 = .ok (.iaload, 1) := by decide +kernel
theorem dX12_feed_64 : decode cX12_feed 64 = .ok (.iconst 1, 1) := by decide +kernel
theorem dX12_feed_65 : decode cX12_feed 65 = .ok (.iadd, 1) := by decide +kernel
theorem dX12_feed_66 : decode cX12_feed 66 = .ok (.iastore, 1) := by decide +kernel
theorem dX12_feed_67 : decode cX12_feed 67 = .ok (.aload_n 0, 1) := by decide +kernel
theorem dX12_feed_68 : decode cX12_feed 68 = .ok (.getfield 159, 3) := by decide +kernel
theorem dX12_feed_71 : decode cX12_feed 71 = .ok (.iload_n 1, 1) := by decide +kernel
theorem dX12_feed_72 : decode cX12_feed 72 = .ok (.iaload, 1) := by decide +kernel
theorem dX12_feed_73 : decode cX12_feed 73 = .ok (.ireturn, 1) := by decide +kernel
theorem dX12_drain_0 : decode cX12_drain 0 = .ok (.aload_n 0, 1) := by decide +kernel
theorem dX12_drain_1 : decode cX12_drain 1 = .ok (.iconst 0, 1) := by decide +kernel
theorem dX12_drain_2 : decode cX12_drain 2 = .ok (.putfield 183, 3) := by decide +kernel
theorem dX12_drain_5 : decode cX12_drain 5 = .ok (.aload_n 0, 1) := by decide +kernel
theorem dX12_drain_6 : decode cX12_drain 6 = .ok (.iload_n 1, 1) := by decide +kernel
theorem dX12_drain_7 : decode cX12_drain 7 = .ok (.aload_n 0, 1) := by decide +kernel
theorem dX12_drain_8 : decode cX12_drain 8 = .ok (.getfield 180, 3) := by decide +kernel
theorem dX12_drain_11 : decode cX12_drain 11 = .ok (.invokevirtual 186, 3) := by decide +kernel
theorem dX12_drain_14 : decode cX12_drain 14 = .ok (.ifCond .eq 9, 3) := by decide +kernel
theorem dX12_drain_17 : decode cX12_drain 17 = .ok (.aload_n 0, 1) := by decide +kernel
theorem dX12_drain_18 : decode cX12_drain 18 = .ok (.iconst 1, 1) := by decide +kernel
theorem dX12_drain_19 : decode cX12_drain 19 = .ok (.invokevirtual 190, 3) := by decide +kernel
theorem dX12_drain_22 : decode cX12_drain 22 = .ok (.ireturn, 1) := by decide +kernel
theorem dX12_drain_23 : decode cX12_drain 23 = .ok (.aload_n 0, 1) := by decide +kernel
theorem dX12_drain_24 : decode cX12_drain 24 = .ok (.getfield 159, 3) := by decide +kernel
theorem dX12_drain_27 : decode cX12_drain 27 = .ok (.iload_n 1, 1) := by decide +kernel
theorem dX12_drain_28 : decode cX12_drain 28 = .ok (.iaload, 1) := by decide +kernel
theorem dX12_drain_29 : decode cX12_drain 29 = .ok (.istore_n 2, 1) := by decide +kernel
theorem dX12_drain_30 : decode cX12_drain 30 = .ok (.aload_n 0, 1) := by decide +kernel
theorem dX12_drain_31 : decode cX12_drain 31 = .ok (.getfield 159, 3) := by decide +kernel
theorem dX12_drain_34 : decode cX12_drain 34 = .ok (.iload_n 1, 1) := by decide +kernel
theorem dX12_drain_35 : decode cX12_drain 35 = .ok (.iconst 0, 1) := by decide +kernel
theorem dX12_drain_36 : decode cX12_drain 36 = .ok (.iastore, 1) := by decide +kernel
theorem dX12_drain_37 : decode cX12_drain 37 = .ok (.iload_n 2, 1) := by decide +kernel
theorem dX12_drain_38 : decode cX12_drain 38 = .ok (.ireturn, 1) := by decide +kernel
theorem dX12_begin_0 : decode cX12_begin 0 = .ok (.iconst 0, 1) := by decide +kernel
theorem dX12_begin_1 : decode cX12_begin 1 = .ok (.istore_n 1, 1) := by decide +kernel
theorem dX12_begin_2 : decode cX12_begin 2 = .ok (.iload_n 1, 1) := by decide +kernel
theorem dX12_begin_3 : decode cX12_begin 3 = .ok (.bipush 26, 2) := by decide +kernel
theorem dX12_begin_5 : decode cX12_begin 5 = .ok (.if_icmp .ge 16, 3) := by decide +kernel
theorem dX12_begin_8 : decode cX12_begin 8 = .ok (.aload_n 0, 1) := by decide +kernel
theorem dX12_begin_9 : decode cX12_begin 9 = .ok (.getfield 171, 3) := by decide +kernel
theorem dX12_begin_12 : decode cX12_begin 12 = .ok (.iload_n 1, 1) := by decide +kernel
theorem dX12_begin_13 : decode cX12_begin 13 = .ok (.iconst 0, 1) := by decide +kernel
theorem dX12_begin_14 : decode cX12_begin 14 = .ok (.iastore, 1) := by decide +kernel
theorem dX12_begin_15 : decode cX12_begin 15 = .ok (.iinc 1 1, 3) := by decide +kernel
theorem dX12_begin_18 : decode cX12_begin 18 = .ok (.goto (-16), 3) := by decide +kernel
theorem dX12_begin_21 : decode cX12_begin 21 = .ok (.iconst 0, 1) := by decide +kernel
theorem dX12_begin_22 : decode cX12_begin 22 = .ok (.istore_n 1, 1) := by decide +kernel
theorem dX12_begin_23 : decode cX12_begin 23 = .ok (.iload_n 1, 1) := by decide +kernel
theorem dX12_begin_24 : decode cX12_begin 24 = .ok (.sipush 208, 3) := by decide +kernel
theorem dX12_begin_27 : decode cX12_begin 27 = .ok (.if_icmp .ge 16, 3) := by decide +kernel
theorem dX12_begin_30 : decode cX12_begin 30 = .ok (.aload_n 0, 1) := by decide +kernel
theorem dX12_begin_31 : decode cX12_begin 31 = .ok (.getfield 174, 3) := by decide +kernel
theorem dX12_begin_34 : decode cX12_begin 34 = .ok (.iload_n 1, 1) := by decide +kernel
theorem dX12_begin_35 : decode cX12_begin 35 = .ok (.iconst 0, 1) := by decide +kernel
theorem dX12_begin_36 : decode cX12_begin 36 = .ok (.iastore, 1) := by decide +kernel
theorem dX12_begin_37 : decode cX12_begin 37 = .ok (.iinc 1 1, 3) := by decide +kernel
theorem dX12_begin_40 : decode cX12_begin 40 = .ok (.goto (-17), 3) := by decide +kernel
theorem dX12_begin_43 : decode cX12_begin 43 = .ok (.iconst 0, 1) := by decide +kernel
theorem dX12_begin_44 : decode cX12_begin 44 = .ok (.istore_n 1, 1) := by decide +kernel
theorem dX12_begin_45 : decode cX12_begin 45 = .ok (.iload_n 1, 1) := by decide +kernel
theorem dX12_begin_46 : decode cX12_begin 46 = .ok (.bipush 6, 2) := by decide +kernel
theorem dX12_begin_48 : decode cX12_begin 48 = .ok (.if_icmp .ge 23, 3) := by decide +kernel
theorem dX12_begin_51 : decode cX12_begin 51 = .ok (.aload_n 0, 1) := by decide +kernel
theorem dX12_begin_52 : decode cX12_begin 52 = .ok (.getfield 162, 3) := by decide +kernel
theorem dX12_begin_55 : decode cX12_begin 55 = .ok (.iload_n 1, 1) := by decide +kernel
theorem dX12_begin_56 : decode cX12_begin 56 = .ok (.iconst 0, 1) := by decide +kernel
theorem dX12_begin_57 : decode cX12_begin 57 = .ok (.iastore, 1) := by decide +kernel
theorem dX12_begin_58 : decode cX12_begin 58 = .ok (.aload_n 0, 1) := by decide +kernel
theorem dX12_begin_59 : decode cX12_begin 59 = .ok (.getfield 168, 3) := by decide +kernel
theorem dX12_begin_62 : decode cX12_begin 62 = .ok (.iload_n 1, 1) := by decide +kernel
theorem dX12_begin_63 : decode cX12_begin 63 = .ok (.iconst 0, 1) := by decide +kernel
theorem dX12_begin_64 : decode cX12_begin 64 = .ok (.iastore, 1) := by decide +kernel
theorem dX12_begin_65 : decode cX12_begin 65 = .ok (.iinc 1 1, 3) := by decide +kernel
theorem dX12_begin_68 : decode cX12_begin 68 = .ok (.goto (-23), 3) := by decide +kernel
theorem dX12_begin_71 : decode cX12_begin 71 = .ok (.aload_n 0, 1) := by decide +kernel
theorem dX12_begin_72 : decode cX12_begin 72 = .ok (.iconst 0, 1) := by decide +kernel
theorem dX12_begin_73 : decode cX12_begin 73 = .ok (.putfield 469, 3) := by decide +kernel
theorem dX12_begin_76 : decode cX12_begin 76 = .ok (.aload_n 0, 1) := by decide +kernel
theorem dX12_begin_77 : decode cX12_begin 77 = .ok (.iconst 0, 1) := by decide +kernel
theorem dX12_begin_78 : decode cX12_begin 78 = .ok (.putfield 472, 3) := by decide +kernel
theorem dX12_begin_81 : decode cX12_begin 81 = .ok (.aload_n 0, 1) := by decide +kernel
theorem dX12_begin_82 : decode cX12_begin 82 = .ok (.iconst (-1), 1) := by decide +kernel
theorem dX12_begin_83 : decode cX12_begin 83 = .ok (.putfield 475, 3) := by decide +kernel
theorem dX12_begin_86 : decode cX12_begin 86 = .ok (.return_, 1) := by decide +kernel
theorem dX12_pop_0 : decode cX12_pop 0 = .ok (.aload_n 0, 1) := by decide +kernel
theorem dX12_pop_1 : decode cX12_pop 1 = .ok (.dup, 1) := by decide +kernel
theorem dX12_pop_2 : decode cX12_pop 2 = .ok (.getfield 469, 3) := by decide +kernel
theorem dX12_pop_5 : decode cX12_pop 5 = .ok (.iconst 1, 1) := by decide +kernel
theorem dX12_pop_6 : decode cX12_pop 6 = .ok (.isub, 1) := by decide +kernel
theorem dX12_pop_7 : decode cX12_pop 7 = .ok (.putfield 469, 3) := by decide +kernel
theorem dX12_pop_10 : decode cX12_pop 10 = .ok (.aload_n 0, 1) := by decide +kernel
theorem dX12_pop_11 : decode cX12_pop 11 = .ok (.getfield 177, 3) := by decide +kernel
theorem dX12_pop_14 : decode cX12_pop 14 = .ok (.aload_n 0, 1) := by decide +kernel
theorem dX12_pop_15 : decode cX12_pop 15 = .ok (.getfield 469, 3) := by decide +kernel
theorem dX12_pop_18 : decode cX12_pop 18 = .ok (.iaload, 1) := by decide +kernel
theorem dX12_pop_19 : decode cX12_pop 19 = .ok (.ireturn, 1) := by decide +kernel
theorem dX12_give_0 : decode cX12_give 0 = .ok (.aload_n 0, 1) := by decide +kernel
theorem dX12_give_1 : decode cX12_give 1 = .ok (.getfield 177, 3) := by decide +kernel
theorem dX12_give_4 : decode cX12_give 4 = .ok (.aload_n 0, 1) := by decide +kernel
theorem dX12_give_5 : decode cX12_give 5 = .ok (.getfield 469, 3) := by decide +kernel
theorem dX12_give_8 : decode cX12_give 8 = .ok (.iload_n 1, 1) := by decide +kernel
theorem dX12_give_9 : decode cX12_give 9 = .ok (.iastore, 1) := by decide +kernel
theorem dX12_give_10 : decode cX12_give 10 = .ok (.aload_n 0, 1) := by decide +kernel
theorem dX12_give_11 : decode cX12_give 11 = .ok (.dup, 1) := by decide +kernel
theorem dX12_give_12 : decode cX12_give 12 = .ok (.getfield 469, 3) := by decide +kernel
theorem dX12_give_15 : decode cX12_give 15 = .ok (.iconst 1, 1) := by decide +kernel
theorem dX12_give_16 : decode cX12_give 16 = .ok (.iadd, 1) := by decide +kernel
theorem dX12_give_17 : decode cX12_give 17 = .ok (.putfield 469, 3) := by decide +kernel
theorem dX12_give_20 : decode cX12_give 20 = .ok (.return_, 1) := by decide +kernel
theorem dX12_input_0 : decode cX12_input 0 = .ok (.aload_n 0, 1) := by decide +kernel
theorem dX12_input_1 : decode cX12_input 1 = .ok (.getfield 162, 3) := by decide +kernel
theorem dX12_input_4 : decode cX12_input 4 = .ok (.iload_n 1, 1) := by decide +kernel
theorem dX12_input_5 : decode cX12_input 5 = .ok (.iaload, 1) := by decide +kernel
theorem dX12_input_6 : decode cX12_input 6 = .ok (.aload_n 0, 1) := by decide +kernel
theorem dX12_input_7 : decode cX12_input 7 = .ok (.getfield 159, 3) := by decide +kernel
theorem dX12_input_10 : decode cX12_input 10 = .ok (.iload_n 1, 1) := by decide +kernel
theorem dX12_input_11 : decode cX12_input 11 = .ok (.iaload, 1) := by decide +kernel
theorem dX12_input_12 : decode cX12_input 12 = .ok (.if_icmp .lt 5, 3) := by decide +kernel
theorem dX12_input_15 : decode cX12_input 15 = .ok (.iconst 0, 1) := by decide +kernel
theorem dX12_input_16 : decode cX12_input 16 = .ok (.ireturn, 1) := by decide +kernel
theorem dX12_input_17 : decode cX12_input 17 = .ok (.aload_n 0, 1) := by decide +kernel
theorem dX12_input_18 : decode cX12_input 18 = .ok (.getfield 162, 3) := by decide +kernel
theorem dX12_input_21 : decode cX12_input 21 = .ok (.iload_n 1, 1) := by decide +kernel
theorem dX12_input_22 : decode cX12_input 22 = .ok (.dup2, 1) := by decide +kernel
theorem dX12_input_23 : decode cX12_input 23 = .ok (.iaload, 1) := by decide +kernel
theorem dX12_input_24 : decode cX12_input 24 = .ok (.iconst 1, 1) := by decide +kernel
theorem dX12_input_25 : decode cX12_input 25 = .ok (.iadd, 1) := by decide +kernel
theorem dX12_input_26 : decode cX12_input 26 = .ok (.iastore, 1) := by decide +kernel
theorem dX12_input_27 : decode cX12_input 27 = .ok (.aload_n 0, 1) := by decide +kernel
theorem dX12_input_28 : decode cX12_input 28 = .ok (.getfield 156, 3) := by decide +kernel
theorem dX12_input_31 : decode cX12_input 31 = .ok (.bipush 20, 2) := by decide +kernel
theorem dX12_input_33 : decode cX12_input 33 = .ok (.iload_n 1, 1) := by decide +kernel
theorem dX12_input_34 : decode cX12_input 34 = .ok (.imul, 1) := by decide +kernel
theorem dX12_input_35 : decode cX12_input 35 = .ok (.aload_n 0, 1) := by decide +kernel
theorem dX12_input_36 : decode cX12_input 36 = .ok (.getfield 162, 3) := by decide +kernel
theorem dX12_input_39 : decode cX12_input 39 = .ok (.iload_n 1, 1) := by decide +kernel
theorem dX12_input_40 : decode cX12_input 40 = .ok (.iaload, 1) := by decide +kernel
theorem dX12_input_41 : decode cX12_input 41 = .ok (.iadd, 1) := by decide +kernel
theorem dX12_input_42 : decode cX12_input 42 = .ok (.iconst 1, 1) := by decide +kernel
theorem dX12_input_43 : decode cX12_input 43 = .ok (.isub, 1) := by decide +kernel
theorem dX12_input_44 : decode cX12_input 44 = .ok (.iaload, 1) := by decide +kernel
theorem dX12_input_45 : decode cX12_input 45 = .ok (.ireturn, 1) := by decide +kernel
theorem dX12_write_0 : decode cX12_write 0 = .ok (.aload_n 0, 1) := by decide +kernel
theorem dX12_write_1 : decode cX12_write 1 = .ok (.invokevirtual 478, 3) := by decide +kernel
theorem dX12_write_4 : decode cX12_write 4 = .ok (.istore_n 2, 1) := by decide +kernel
theorem dX12_write_5 : decode cX12_write 5 = .ok (.aload_n 0, 1) := by decide +kernel
theorem dX12_write_6 : decode cX12_write 6 = .ok (.getfield 168, 3) := by decide +kernel
theorem dX12_write_9 : decode cX12_write 9 = .ok (.iload_n 1, 1) := by decide +kernel
theorem dX12_write_10 : decode cX12_write 10 = .ok (.iaload, 1) := by decide +kernel
theorem dX12_write_11 : decode cX12_write 11 = .ok (.bipush 20, 2) := by decide +kernel
theorem dX12_write_13 : decode cX12_write 13 = .ok (.if_icmp .ne 11, 3) := by decide +kernel
theorem dX12_write_16 : decode cX12_write 16 = .ok (.aload_n 0, 1) := by decide +kernel
theorem dX12_write_17 : decode cX12_write 17 = .ok (.iconst 4, 1) := by decide +kernel
theorem dX12_write_18 : decode cX12_write 18 = .ok (.putfield 475, 3) := by decide +kernel
theorem dX12_write_21 : decode cX12_write 21 = .ok (.goto 30, 3) := by decide +kernel
theorem dX12_write_24 : decode cX12_write 24 = .ok (.aload_n 0, 1) := by decide +kernel
theorem dX12_write_25 : decode cX12_write 25 = .ok (.getfield 165, 3) := by decide +kernel
theorem dX12_write_28 : decode cX12_write 28 = .ok (.bipush 20, 2) := by decide +kernel
theorem dX12_write_30 : decode cX12_write 30 = .ok (.iload_n 1, 1) := by decide +kernel
theorem dX12_write_31 : decode cX12_write 31 = .ok (.imul, 1) := by decide +kernel
theorem dX12_write_32 : decode cX12_write 32 = .ok (.aload_n 0, 1) := by decide +kernel
theorem dX12_write_33 : decode cX12_write 33 = .ok (.getfield 168, 3) := by decide +kernel
theorem dX12_write_36 : decode cX12_write 36 = .ok (.iload_n 1, 1) := by decide +kernel
theorem dX12_write_37 : decode cX12_write 37 = .ok (.iaload, 1) := by decide +kernel
theorem dX12_write_38 : decode cX12_write 38 = .ok (.iadd, 1) := by decide +kernel
theorem dX12_write_39 : decode cX12_write 39 = .ok (.iload_n 2, 1) := by decide +kernel
theorem dX12_write_40 : decode cX12_write 40 = .ok (.iastore, 1) := by decide +kernel
theorem dX12_write_41 : decode cX12_write 41 = .ok (.aload_n 0, 1) := by decide +kernel
theorem dX12_write_42 : decode cX12_write 42 = .ok (.getfield 168, 3) := by decide +kernel
theorem dX12_write_45 : decode cX12_write 45 = .ok (.iload_n 1, 1) := by decide +kernel
theorem dX12_write_46 : decode cX12_write 46 = .ok (.dup2, 1) := by decide +kernel
theorem dX12_write_47 : decode cX12_write 47 = .ok (.iaload, 1) := by decide +kernel
theorem dX12_write_48 : decode cX12_write 48 = .ok (.iconst 1, 1) := by decide +kernel
theorem dX12_write_49 : decode cX12_write 49 = .ok (.iadd, 1) := by decide +kernel
theorem dX12_write_50 : decode cX12_write 50 = .ok (.iastore, 1) := by decide +kernel
theorem dX12_write_51 : decode cX12_write 51 = .ok (.return_, 1) := by decide +kernel
theorem dX12_compute_0 : decode cX12_compute 0 = .ok (.aload_n 0, 1) := by decide +kernel
theorem dX12_compute_1 : decode cX12_compute 1 = .ok (.invokevirtual 478, 3) := by decide +kernel
theorem dX12_compute_4 : decode cX12_compute 4 = .ok (.istore_n 2, 1) := by decide +kernel
theorem dX12_compute_5 : decode cX12_compute 5 = .ok (.aload_n 0, 1) := by decide +kernel
theorem dX12_compute_6 : decode cX12_compute 6 = .ok (.invokevirtual 478, 3) := by decide +kernel
theorem dX12_compute_9 : decode cX12_compute 9 = .ok (.istore_n 3, 1) := by decide +kernel
theorem dX12_compute_10 : decode cX12_compute 10 = .ok (.iload_n 1, 1) := by decide +kernel
theorem dX12_compute_11 : decode cX12_compute 11 = .ok (.tableswitch 102 5 9 #[33, 43, 53, 63, 85], 33) := by decide +kernel
theorem dX12_compute_44 : decode cX12_compute 44 = .ok (.aload_n 0, 1) := by decide +kernel
theorem dX12_compute_45 : decode cX12_compute 45 = .ok (.iload_n 3, 1) := by decide +kernel
theorem dX12_compute_46 : decode cX12_compute 46 = .ok (.iload_n 2, 1) := by decide +kernel
theorem dX12_compute_47 : decode cX12_compute 47 = .ok (.iadd, 1) := by decide +kernel
theorem dX12_compute_48 : decode cX12_compute 48 = .ok (.invokevirtual 481, 3) := by decide +kernel
theorem dX12_compute_51 : decode cX12_compute 51 = .ok (.goto 76, 3) := by decide +kernel
theorem dX12_compute_54 : decode cX12_compute 54 = .ok (.aload_n 0, 1) := by decide +kernel
theorem dX12_compute_55 : decode cX12_compute 55 = .ok (.iload_n 3, 1) := by decide +kernel
theorem dX12_compute_56 : decode cX12_compute 56 = .ok (.iload_n 2, 1) := by decide +kernel
theorem dX12_compute_57 : decode cX12_compute 57 = .ok (.isub, 1) := by decide +kernel
theorem dX12_compute_58 : decode cX12_compute 58 = .ok (.invokevirtual 481, 3) := by decide +kernel
theorem dX12_compute_61 : decode cX12_compute 61 = .ok (.goto 66, 3) := by decide +kernel
theorem dX12_compute_64 : decode cX12_compute 64 = .ok (.aload_n 0, 1) := by decide +kernel
theorem dX12_compute_65 : decode cX12_compute 65 = .ok (.iload_n 3, 1) := by decide +kernel
theorem dX12_compute_66 : decode cX12_compute 66 = .ok (.iload_n 2, 1) := by decide +kernel
theorem dX12_compute_67 : decode cX12_compute 67 = .ok (.imul, 1) := by decide +kernel
theorem dX12_compute_68 : decode cX12_compute 68 = .ok (.invokevirtual 481, 3) := by decide +kernel
theorem dX12_compute_71 : decode cX12_compute 71 = .ok (.goto 56, 3) := by decide +kernel
theorem dX12_compute_74 : decode cX12_compute 74 = .ok (.iload_n 2, 1) := by decide +kernel
theorem dX12_compute_75 : decode cX12_compute 75 = .ok (.ifCond .ne 11, 3) := by decide +kernel
theorem dX12_compute_78 : decode cX12_compute 78 = .ok (.aload_n 0, 1) := by decide +kernel
theorem dX12_compute_79 : decode cX12_compute 79 = .ok (.iconst 1, 1) := by decide +kernel
theorem dX12_compute_80 : decode cX12_compute 80 = .ok (.putfield 475, 3) := by decide +kernel
theorem dX12_compute_83 : decode cX12_compute 83 = .ok (.goto 44, 3) := by decide +kernel
theorem dX12_compute_86 : decode cX12_compute 86 = .ok (.aload_n 0, 1) := by decide +kernel
theorem dX12_compute_87 : decode cX12_compute 87 = .ok (.iload_n 3, 1) := by decide +kernel
theorem dX12_compute_88 : decode cX12_compute 88 = .ok (.iload_n 2, 1) := by decide +kernel
theorem dX12_compute_89 : decode cX12_compute 89 = .ok (.idiv, 1) := by decide +kernel
theorem dX12_compute_90 : decode cX12_compute 90 = .ok (.invokevirtual 481, 3) := by decide +kernel
theorem dX12_compute_93 : decode cX12_compute 93 = .ok (.goto 34, 3) := by decide +kernel
theorem dX12_compute_96 : decode cX12_compute 96 = .ok (.aload_n 0, 1) := by decide +kernel
theorem dX12_compute_97 : decode cX12_compute 97 = .ok (.iload_n 3, 1) := by decide +kernel
theorem dX12_compute_98 : decode cX12_compute 98 = .ok (.iload_n 2, 1) := by decide +kernel
theorem dX12_compute_99 : decode cX12_compute 99 = .ok (.if_icmp .ge 7, 3) := by decide +kernel
theorem dX12_compute_102 : decode cX12_compute 102 = .ok (.iconst 1, 1) := by decide +kernel
theorem dX12_compute_103 : decode cX12_compute 103 = .ok (.goto 4, 3) := by decide +kernel
theorem dX12_compute_106 : decode cX12_compute 106 = .ok (.iconst 0, 1) := by decide +kernel
theorem dX12_compute_107 : decode cX12_compute 107 = .ok (.invokevirtual 481, 3) := by decide +kernel
theorem dX12_compute_110 : decode cX12_compute 110 = .ok (.goto 17, 3) := by decide +kernel
theorem dX12_compute_113 : decode cX12_compute 113 = .ok (.aload_n 0, 1) := by decide +kernel
theorem dX12_compute_114 : decode cX12_compute 114 = .ok (.iload_n 3, 1) := by decide +kernel
theorem dX12_compute_115 : decode cX12_compute 115 = .ok (.iload_n 2, 1) := by decide +kernel
theorem dX12_compute_116 : decode cX12_compute 116 = .ok (.if_icmp .ne 7, 3) := by decide +kernel
theorem dX12_compute_119 : decode cX12_compute 119 = .ok (.iconst 1, 1) := by decide +kernel
theorem dX12_compute_120 : decode cX12_compute 120 = .ok (.goto 4, 3) := by decide +kernel
theorem dX12_compute_123 : decode cX12_compute 123 = .ok (.iconst 0, 1) := by decide +kernel
theorem dX12_compute_124 : decode cX12_compute 124 = .ok (.invokevirtual 481, 3) := by decide +kernel
theorem dX12_compute_127 : decode cX12_compute 127 = .ok (.return_, 1) := by decide +kernel
theorem dX12_perform_0 : decode cX12_perform 0 = .ok (.iconst 0, 1) := by decide +kernel
theorem dX12_perform_1 : decode cX12_perform 1 = .ok (.istore_n 3, 1) := by decide +kernel
theorem dX12_perform_2 : decode cX12_perform 2 = .ok (.iload_n 1, 1) := by decide +kernel
theorem dX12_perform_3 : decode cX12_perform 3 = .ok (.tableswitch 214 0 14 #[73, 81, 94, 107, 148, 214, 214, 214, 214, 214, 214, 214, 214, 194, 206], 73) := by decide +kernel
theorem dX12_perform_76 : decode cX12_perform 76 = .ok (.aload_n 0, 1) := by decide +kernel
theorem dX12_perform_77 : decode cX12_perform 77 = .ok (.iload_n 2, 1) := by decide +kernel
theorem dX12_perform_78 : decode cX12_perform 78 = .ok (.invokevirtual 481, 3) := by decide +kernel
theorem dX12_perform_81 : decode cX12_perform 81 = .ok (.goto 141, 3) := by decide +kernel
theorem dX12_perform_84 : decode cX12_perform 84 = .ok (.aload_n 0, 1) := by decide +kernel
theorem dX12_perform_85 : decode cX12_perform 85 = .ok (.aload_n 0, 1) := by decide +kernel
theorem dX12_perform_86 : decode cX12_perform 86 = .ok (.getfield 171, 3) := by decide +kernel
theorem dX12_perform_89 : decode cX12_perform 89 = .ok (.iload_n 2, 1) := by decide +kernel
theorem dX12_perform_90 : decode cX12_perform 90 = .ok (.iaload, 1) := by decide +kernel
theorem dX12_perform_91 : decode cX12_perform 91 = .ok (.invokevirtual 481, 3) := by decide +kernel
theorem dX12_perform_94 : decode cX12_perform 94 = .ok (.goto 128, 3) := by decide +kernel
theorem dX12_perform_97 : decode cX12_perform 97 = .ok (.aload_n 0, 1) := by decide +kernel
theorem dX12_perform_98 : decode cX12_perform 98 = .ok (.getfield 171, 3) := by decide +kernel
theorem dX12_perform_101 : decode cX12_perform 101 = .ok (.iload_n 2, 1) := by decide +kernel
theorem dX12_perform_102 : decode cX12_perform 102 = .ok (.aload_n 0, 1) := by decide +kernel
theorem dX12_perform_103 : decode cX12_perform 103 = .ok (.invokevirtual 478, 3) := by decide +kernel
theorem dX12_perform_106 : decode cX12_perform 106 = .ok (.iastore, 1) := by decide +kernel
theorem dX12_perform_107 : decode cX12_perform 107 = .ok (.goto 115, 3) := by decide +kernel
theorem dX12_perform_110 : decode cX12_perform 110 = .ok (.aload_n 0, 1) := by decide +kernel
theorem dX12_perform_111 : decode cX12_perform 111 = .ok (.invokevirtual 478, 3) := by decide +kernel
theorem dX12_perform_114 : decode cX12_perform 114 = .ok (.istore_n 3, 1) := by decide +kernel
theorem dX12_perform_115 : decode cX12_perform 115 = .ok (.aload_n 0, 1) := by decide +kernel
theorem dX12_perform_116 : decode cX12_perform 116 = .ok (.iload_n 3, 1) := by decide +kernel
theorem dX12_perform_117 : decode cX12_perform 117 = .ok (.bipush 8, 2) := by decide +kernel
theorem dX12_perform_119 : decode cX12_perform 119 = .ok (.invokevirtual 186, 3) := by decide +kernel
theorem dX12_perform_122 : decode cX12_perform 122 = .ok (.ifCond .eq 11, 3) := by decide +kernel
theorem dX12_perform_125 : decode cX12_perform 125 = .ok (.aload_n 0, 1) := by decide +kernel
theorem dX12_perform_126 : decode cX12_perform 126 = .ok (.iconst 2, 1) := by decide +kernel
theorem dX12_perform_127 : decode cX12_perform 127 = .ok (.putfield 475, 3) := by decide +kernel
theorem dX12_perform_130 : decode cX12_perform 130 = .ok (.goto 92, 3) := by decide +kernel
theorem dX12_perform_133 : decode cX12_perform 133 = .ok (.aload_n 0, 1) := by decide +kernel
theorem dX12_perform_134 : decode cX12_perform 134 = .ok (.aload_n 0, 1) := by decide +kernel
theorem dX12_perform_135 : decode cX12_perform 135 = .ok (.getfield 174, 3) := by decide +kernel
theorem dX12_perform_138 : decode cX12_perform 138 = .ok (.bipush 8, 2) := by decide +kernel
theorem dX12_perform_140 : decode cX12_perform 140 = .ok (.iload_n 2, 1) := by decide +kernel
theorem dX12_perform_141 : decode cX12_perform 141 = .ok (.imul, 1) := by decide +kernel
theorem dX12_perform_142 : decode cX12_perform 142 = .ok (.iload_n 3, 1) := by decide +kernel
theorem dX12_perform_143 : decode cX12_perform 143 = .ok (.iadd, 1) := by decide +kernel
theorem dX12_perform_144 : decode cX12_perform 144 = .ok (.iaload, 1) := by decide +kernel
theorem dX12_perform_145 : decode cX12_perform 145 = .ok (.invokevirtual 481, 3) := by decide +kernel
theorem dX12_perform_148 : decode cX12_perform 148 = .ok (.goto 74, 3) := by decide +kernel
theorem dX12_perform_151 : decode cX12_perform 151 = .ok (.aload_n 0, 1) := by decide +kernel
theorem dX12_perform_152 : decode cX12_perform 152 = .ok (.invokevirtual 478, 3) := by decide +kernel
theorem dX12_perform_155 : decode cX12_perform 155 = .ok (.istore_n 3, 1) := by decide +kernel
theorem dX12_perform_156 : decode cX12_perform 156 = .ok (.aload_n 0, 1) := by decide +kernel
theorem dX12_perform_157 : decode cX12_perform 157 = .ok (.invokevirtual 478, 3) := by decide +kernel
theorem dX12_perform_160 : decode cX12_perform 160 = .ok (.istore 4, 2) := by decide +kernel
theorem dX12_perform_162 : decode cX12_perform 162 = .ok (.aload_n 0, 1) := by decide +kernel
theorem dX12_perform_163 : decode cX12_perform 163 = .ok (.iload 4, 2) := by decide +kernel
theorem dX12_perform_165 : decode cX12_perform 165 = .ok (.bipush 8, 2) := by decide +kernel
theorem dX12_perform_167 : decode cX12_perform 167 = .ok (.invokevirtual 186, 3) := by decide +kernel
theorem dX12_perform_170 : decode cX12_perform 170 = .ok (.ifCond .eq 11, 3) := by decide +kernel
theorem dX12_perform_173 : decode cX12_perform 173 = .ok (.aload_n 0, 1) := by decide +kernel
theorem dX12_perform_174 : decode cX12_perform 174 = .ok (.iconst 2, 1) := by decide +kernel
theorem dX12_perform_175 : decode cX12_perform 175 = .ok (.putfield 475, 3) := by decide +kernel
theorem dX12_perform_178 : decode cX12_perform 178 = .ok (.goto 44, 3) := by decide +kernel
theorem dX12_perform_181 : decode cX12_perform 181 = .ok (.aload_n 0, 1) := by decide +kernel
theorem dX12_perform_182 : decode cX12_perform 182 = .ok (.getfield 174, 3) := by decide +kernel
theorem dX12_perform_185 : decode cX12_perform 185 = .ok (.bipush 8, 2) := by decide +kernel
theorem dX12_perform_187 : decode cX12_perform 187 = .ok (.iload_n 2, 1) := by decide +kernel
theorem dX12_perform_188 : decode cX12_perform 188 = .ok (.imul, 1) := by decide +kernel
theorem dX12_perform_189 : decode cX12_perform 189 = .ok (.iload 4, 2) := by decide +kernel
theorem dX12_perform_191 : decode cX12_perform 191 = .ok (.iadd, 1) := by decide +kernel
theorem dX12_perform_192 : decode cX12_perform 192 = .ok (.iload_n 3, 1) := by decide +kernel
theorem dX12_perform_193 : decode cX12_perform 193 = .ok (.iastore, 1) := by decide +kernel
theorem dX12_perform_194 : decode cX12_perform 194 = .ok (.goto 28, 3) := by decide +kernel
theorem dX12_perform_197 : decode cX12_perform 197 = .ok (.aload_n 0, 1) := by decide +kernel
theorem dX12_perform_198 : decode cX12_perform 198 = .ok (.aload_n 0, 1) := by decide +kernel
theorem dX12_perform_199 : decode cX12_perform 199 = .ok (.iload_n 2, 1) := by decide +kernel
theorem dX12_perform_200 : decode cX12_perform 200 = .ok (.invokevirtual 484, 3) := by decide +kernel
theorem dX12_perform_203 : decode cX12_perform 203 = .ok (.invokevirtual 481, 3) := by decide +kernel
theorem dX12_perform_206 : decode cX12_perform 206 = .ok (.goto 16, 3) := by decide +kernel
theorem dX12_perform_209 : decode cX12_perform 209 = .ok (.aload_n 0, 1) := by decide +kernel
theorem dX12_perform_210 : decode cX12_perform 210 = .ok (.iload_n 2, 1) := by decide +kernel
theorem dX12_perform_211 : decode cX12_perform 211 = .ok (.invokevirtual 487, 3) := by decide +kernel
theorem dX12_perform_214 : decode cX12_perform 214 = .ok (.goto 8, 3) := by decide +kernel
theorem dX12_perform_217 : decode cX12_perform 217 = .ok (.aload_n 0, 1) := by decide +kernel
theorem dX12_perform_218 : decode cX12_perform 218 = .ok (.iload_n 1, 1) := by decide +kernel
theorem dX12_perform_219 : decode cX12_perform 219 = .ok (.invokevirtual 490, 3) := by decide +kernel
theorem dX12_perform_222 : decode cX12_perform 222 = .ok (.return_, 1) := by decide +kernel
theorem dX12_run_0 : decode cX12_run 0 = .ok (.aload_n 0, 1) := by decide +kernel
theorem dX12_run_1 : decode cX12_run 1 = .ok (.iconst 0, 1) := by decide +kernel
theorem dX12_run_2 : decode cX12_run 2 = .ok (.putfield 183, 3) := by decide +kernel
theorem dX12_run_5 : decode cX12_run 5 = .ok (.iload_n 1, 1) := by decide +kernel
theorem dX12_run_6 : decode cX12_run 6 = .ok (.iconst 1, 1) := by decide +kernel
theorem dX12_run_7 : decode cX12_run 7 = .ok (.if_icmp .lt 10, 3) := by decide +kernel
theorem dX12_run_10 : decode cX12_run 10 = .ok (.iload_n 1, 1) := by decide +kernel
theorem dX12_run_11 : decode cX12_run 11 = .ok (.sipush 600, 3) := by decide +kernel
theorem dX12_run_14 : decode cX12_run 14 = .ok (.if_icmp .le 9, 3) := by decide +kernel
theorem dX12_run_17 : decode cX12_run 17 = .ok (.aload_n 0, 1) := by decide +kernel
theorem dX12_run_18 : decode cX12_run 18 = .ok (.iconst 1, 1) := by decide +kernel
theorem dX12_run_19 : decode cX12_run 19 = .ok (.invokevirtual 190, 3) := by decide +kernel
theorem dX12_run_22 : decode cX12_run 22 = .ok (.ireturn, 1) := by decide +kernel
theorem dX12_run_23 : decode cX12_run 23 = .ok (.aload_n 0, 1) := by decide +kernel
theorem dX12_run_24 : decode cX12_run 24 = .ok (.getfield 409, 3) := by decide +kernel
theorem dX12_run_27 : decode cX12_run 27 = .ok (.ifCond .ne 9, 3) := by decide +kernel
theorem dX12_run_30 : decode cX12_run 30 = .ok (.aload_n 0, 1) := by decide +kernel
theorem dX12_run_31 : decode cX12_run 31 = .ok (.iconst 2, 1) := by decide +kernel
theorem dX12_run_32 : decode cX12_run 32 = .ok (.invokevirtual 190, 3) := by decide +kernel
theorem dX12_run_35 : decode cX12_run 35 = .ok (.ireturn, 1) := by decide +kernel
theorem dX12_run_36 : decode cX12_run 36 = .ok (.aload_n 0, 1) := by decide +kernel
theorem dX12_run_37 : decode cX12_run 37 = .ok (.invokevirtual 493, 3) := by decide +kernel
theorem dX12_run_40 : decode cX12_run 40 = .ok (.iconst 0, 1) := by decide +kernel
theorem dX12_run_41 : decode cX12_run 41 = .ok (.istore_n 2, 1) := by decide +kernel
theorem dX12_run_42 : decode cX12_run 42 = .ok (.aload_n 0, 1) := by decide +kernel
theorem dX12_run_43 : decode cX12_run 43 = .ok (.getfield 475, 3) := by decide +kernel
theorem dX12_run_46 : decode cX12_run 46 = .ok (.ifCond .ge 102, 3) := by decide +kernel
theorem dX12_run_49 : decode cX12_run 49 = .ok (.aload_n 0, 1) := by decide +kernel
theorem dX12_run_50 : decode cX12_run 50 = .ok (.getfield 472, 3) := by decide +kernel
theorem dX12_run_53 : decode cX12_run 53 = .ok (.iload_n 1, 1) := by decide +kernel
theorem dX12_run_54 : decode cX12_run 54 = .ok (.if_icmp .ne 11, 3) := by decide +kernel
theorem dX12_run_57 : decode cX12_run 57 = .ok (.aload_n 0, 1) := by decide +kernel
theorem dX12_run_58 : decode cX12_run 58 = .ok (.iconst 3, 1) := by decide +kernel
theorem dX12_run_59 : decode cX12_run 59 = .ok (.putfield 475, 3) := by decide +kernel
theorem dX12_run_62 : decode cX12_run 62 = .ok (.goto 86, 3) := by decide +kernel
theorem dX12_run_65 : decode cX12_run 65 = .ok (.aload_n 0, 1) := by decide +kernel
theorem dX12_run_66 : decode cX12_run 66 = .ok (.dup, 1) := by decide +kernel
theorem dX12_run_67 : decode cX12_run 67 = .ok (.getfield 472, 3) := by decide +kernel
theorem dX12_run_70 : decode cX12_run 70 = .ok (.iconst 1, 1) := by decide +kernel
theorem dX12_run_71 : decode cX12_run 71 = .ok (.iadd, 1) := by decide +kernel
theorem dX12_run_72 : decode cX12_run 72 = .ok (.putfield 472, 3) := by decide +kernel
theorem dX12_run_75 : decode cX12_run 75 = .ok (.aload_n 0, 1) := by decide +kernel
theorem dX12_run_76 : decode cX12_run 76 = .ok (.getfield 30, 3) := by decide +kernel
theorem dX12_run_79 : decode cX12_run 79 = .ok (.iload_n 2, 1) := by decide +kernel
theorem dX12_run_80 : decode cX12_run 80 = .ok (.iaload, 1) := by decide +kernel
theorem dX12_run_81 : decode cX12_run 81 = .ok (.istore_n 3, 1) := by decide +kernel
theorem dX12_run_82 : decode cX12_run 82 = .ok (.aload_n 0, 1) := by decide +kernel
theorem dX12_run_83 : decode cX12_run 83 = .ok (.getfield 33, 3) := by decide +kernel
theorem dX12_run_86 : decode cX12_run 86 = .ok (.iload_n 2, 1) := by decide +kernel
theorem dX12_run_87 : decode cX12_run 87 = .ok (.iaload, 1) := by decide +kernel
theorem dX12_run_88 : decode cX12_run 88 = .ok (.istore 4, 2) := by decide +kernel
theorem dX12_run_90 : decode cX12_run 90 = .ok (.iinc 2 1, 3) := by decide +kernel
theorem dX12_run_93 : decode cX12_run 93 = .ok (.iload_n 3, 1) := by decide +kernel
theorem dX12_run_94 : decode cX12_run 94 = .ok (.bipush 15, 2) := by decide +kernel
theorem dX12_run_96 : decode cX12_run 96 = .ok (.if_icmp .ne 11, 3) := by decide +kernel
theorem dX12_run_99 : decode cX12_run 99 = .ok (.aload_n 0, 1) := by decide +kernel
theorem dX12_run_100 : decode cX12_run 100 = .ok (.iconst 0, 1) := by decide +kernel
theorem dX12_run_101 : decode cX12_run 101 = .ok (.putfield 475, 3) := by decide +kernel
theorem dX12_run_104 : decode cX12_run 104 = .ok (.goto 41, 3) := by decide +kernel
theorem dX12_run_107 : decode cX12_run 107 = .ok (.iload_n 3, 1) := by decide +kernel
theorem dX12_run_108 : decode cX12_run 108 = .ok (.bipush 12, 2) := by decide +kernel
theorem dX12_run_110 : decode cX12_run 110 = .ok (.if_icmp .ne 9, 3) := by decide +kernel
theorem dX12_run_113 : decode cX12_run 113 = .ok (.iload 4, 2) := by decide +kernel
theorem dX12_run_115 : decode cX12_run 115 = .ok (.istore_n 2, 1) := by decide +kernel
theorem dX12_run_116 : decode cX12_run 116 = .ok (.goto 29, 3) := by decide +kernel
theorem dX12_run_119 : decode cX12_run 119 = .ok (.iload_n 3, 1) := by decide +kernel
theorem dX12_run_120 : decode cX12_run 120 = .ok (.bipush 11, 2) := by decide +kernel
theorem dX12_run_122 : decode cX12_run 122 = .ok (.if_icmp .eq 13, 3) := by decide +kernel
theorem dX12_run_125 : decode cX12_run 125 = .ok (.aload_n 0, 1) := by decide +kernel
theorem dX12_run_126 : decode cX12_run 126 = .ok (.iload_n 3, 1) := by decide +kernel
theorem dX12_run_127 : decode cX12_run 127 = .ok (.iload 4, 2) := by decide +kernel
theorem dX12_run_129 : decode cX12_run 129 = .ok (.invokevirtual 496, 3) := by decide +kernel
theorem dX12_run_132 : decode cX12_run 132 = .ok (.goto 13, 3) := by decide +kernel
theorem dX12_run_135 : decode cX12_run 135 = .ok (.aload_n 0, 1) := by decide +kernel
theorem dX12_run_136 : decode cX12_run 136 = .ok (.invokevirtual 478, 3) := by decide +kernel
theorem dX12_run_139 : decode cX12_run 139 = .ok (.ifCond .ne 6, 3) := by decide +kernel
theorem dX12_run_142 : decode cX12_run 142 = .ok (.iload 4, 2) := by decide +kernel
theorem dX12_run_144 : decode cX12_run 144 = .ok (.istore_n 2, 1) := by decide +kernel
theorem dX12_run_145 : decode cX12_run 145 = .ok (.goto (-103), 3) := by decide +kernel
theorem dX12_run_148 : decode cX12_run 148 = .ok (.aload_n 0, 1) := by decide +kernel
theorem dX12_run_149 : decode cX12_run 149 = .ok (.getfield 475, 3) := by decide +kernel
theorem dX12_run_152 : decode cX12_run 152 = .ok (.ireturn, 1) := by decide +kernel
theorem dX12_fuelled_0 : decode cX12_fuelled 0 = .ok (.aload_n 0, 1) := by decide +kernel
theorem dX12_fuelled_1 : decode cX12_fuelled 1 = .ok (.getfield 472, 3) := by decide +kernel
theorem dX12_fuelled_4 : decode cX12_fuelled 4 = .ok (.iload_n 1, 1) := by decide +kernel
theorem dX12_fuelled_5 : decode cX12_fuelled 5 = .ok (.if_icmp .ne 11, 3) := by decide +kernel
theorem dX12_fuelled_8 : decode cX12_fuelled 8 = .ok (.aload_n 0, 1) := by decide +kernel
theorem dX12_fuelled_9 : decode cX12_fuelled 9 = .ok (.iconst 3, 1) := by decide +kernel
theorem dX12_fuelled_10 : decode cX12_fuelled 10 = .ok (.putfield 475, 3) := by decide +kernel
theorem dX12_fuelled_13 : decode cX12_fuelled 13 = .ok (.goto 13, 3) := by decide +kernel
theorem dX12_fuelled_16 : decode cX12_fuelled 16 = .ok (.aload_n 0, 1) := by decide +kernel
theorem dX12_fuelled_17 : decode cX12_fuelled 17 = .ok (.dup, 1) := by decide +kernel
theorem dX12_fuelled_18 : decode cX12_fuelled 18 = .ok (.getfield 472, 3) := by decide +kernel
theorem dX12_fuelled_21 : decode cX12_fuelled 21 = .ok (.iconst 1, 1) := by decide +kernel
theorem dX12_fuelled_22 : decode cX12_fuelled 22 = .ok (.iadd, 1) := by decide +kernel
theorem dX12_fuelled_23 : decode cX12_fuelled 23 = .ok (.putfield 472, 3) := by decide +kernel
theorem dX12_fuelled_26 : decode cX12_fuelled 26 = .ok (.aload_n 0, 1) := by decide +kernel
theorem dX12_fuelled_27 : decode cX12_fuelled 27 = .ok (.getfield 475, 3) := by decide +kernel
theorem dX12_fuelled_30 : decode cX12_fuelled 30 = .ok (.ifCond .ge 7, 3) := by decide +kernel
theorem dX12_fuelled_33 : decode cX12_fuelled 33 = .ok (.iconst 1, 1) := by decide +kernel
theorem dX12_fuelled_34 : decode cX12_fuelled 34 = .ok (.goto 4, 3) := by decide +kernel
theorem dX12_fuelled_37 : decode cX12_fuelled 37 = .ok (.iconst 0, 1) := by decide +kernel
theorem dX12_fuelled_38 : decode cX12_fuelled 38 = .ok (.ireturn, 1) := by decide +kernel
theorem dX12_worth_0 : decode cX12_worth 0 = .ok (.iload_n 1, 1) := by decide +kernel
theorem dX12_worth_1 : decode cX12_worth 1 = .ok (.istore_n 2, 1) := by decide +kernel
theorem dX12_worth_2 : decode cX12_worth 2 = .ok (.aload_n 0, 1) := by decide +kernel
theorem dX12_worth_3 : decode cX12_worth 3 = .ok (.getfield 69, 3) := by decide +kernel
theorem dX12_worth_6 : decode cX12_worth 6 = .ok (.iload_n 2, 1) := by decide +kernel
theorem dX12_worth_7 : decode cX12_worth 7 = .ok (.iaload, 1) := by decide +kernel
theorem dX12_worth_8 : decode cX12_worth 8 = .ok (.ifCond .lt 32, 3) := by decide +kernel
theorem dX12_worth_11 : decode cX12_worth 11 = .ok (.aload_n 0, 1) := by decide +kernel
theorem dX12_worth_12 : decode cX12_worth 12 = .ok (.getfield 475, 3) := by decide +kernel
theorem dX12_worth_15 : decode cX12_worth 15 = .ok (.ifCond .ge 25, 3) := by decide +kernel
theorem dX12_worth_18 : decode cX12_worth 18 = .ok (.aload_n 0, 1) := by decide +kernel
theorem dX12_worth_19 : decode cX12_worth 19 = .ok (.aload_n 0, 1) := by decide +kernel
theorem dX12_worth_20 : decode cX12_worth 20 = .ok (.getfield 69, 3) := by decide +kernel
theorem dX12_worth_23 : decode cX12_worth 23 = .ok (.iload_n 2, 1) := by decide +kernel
theorem dX12_worth_24 : decode cX12_worth 24 = .ok (.iaload, 1) := by decide +kernel
theorem dX12_worth_25 : decode cX12_worth 25 = .ok (.aload_n 0, 1) := by decide +kernel
theorem dX12_worth_26 : decode cX12_worth 26 = .ok (.getfield 72, 3) := by decide +kernel
theorem dX12_worth_29 : decode cX12_worth 29 = .ok (.iload_n 2, 1) := by decide +kernel
theorem dX12_worth_30 : decode cX12_worth 30 = .ok (.iaload, 1) := by decide +kernel
theorem dX12_worth_31 : decode cX12_worth 31 = .ok (.invokevirtual 496, 3) := by decide +kernel
theorem dX12_worth_34 : decode cX12_worth 34 = .ok (.iinc 2 1, 3) := by decide +kernel
theorem dX12_worth_37 : decode cX12_worth 37 = .ok (.goto (-35), 3) := by decide +kernel
theorem dX12_worth_40 : decode cX12_worth 40 = .ok (.aload_n 0, 1) := by decide +kernel
theorem dX12_worth_41 : decode cX12_worth 41 = .ok (.getfield 475, 3) := by decide +kernel
theorem dX12_worth_44 : decode cX12_worth 44 = .ok (.ifCond .ge 10, 3) := by decide +kernel
theorem dX12_worth_47 : decode cX12_worth 47 = .ok (.aload_n 0, 1) := by decide +kernel
theorem dX12_worth_48 : decode cX12_worth 48 = .ok (.invokevirtual 478, 3) := by decide +kernel
theorem dX12_worth_51 : decode cX12_worth 51 = .ok (.goto 4, 3) := by decide +kernel
theorem dX12_worth_54 : decode cX12_worth 54 = .ok (.iconst 0, 1) := by decide +kernel
theorem dX12_worth_55 : decode cX12_worth 55 = .ok (.ireturn, 1) := by decide +kernel
theorem dX12_step_0 : decode cX12_step 0 = .ok (.aload_n 0, 1) := by decide +kernel
theorem dX12_step_1 : decode cX12_step 1 = .ok (.getfield 42, 3) := by decide +kernel
theorem dX12_step_4 : decode cX12_step 4 = .ok (.iload_n 1, 1) := by decide +kernel
theorem dX12_step_5 : decode cX12_step 5 = .ok (.iaload, 1) := by decide +kernel
theorem dX12_step_6 : decode cX12_step 6 = .ok (.tableswitch 282 1 7 #[42, 75, 247, 282, 162, 186, 220], 42) := by decide +kernel
theorem dX12_step_48 : decode cX12_step 48 = .ok (.aload_n 0, 1) := by decide +kernel
theorem dX12_step_49 : decode cX12_step 49 = .ok (.aload_n 0, 1) := by decide +kernel
theorem dX12_step_50 : decode cX12_step 50 = .ok (.getfield 57, 3) := by decide +kernel
theorem dX12_step_53 : decode cX12_step 53 = .ok (.iload_n 1, 1) := by decide +kernel
theorem dX12_step_54 : decode cX12_step 54 = .ok (.iaload, 1) := by decide +kernel
theorem dX12_step_55 : decode cX12_step 55 = .ok (.invokevirtual 499, 3) := by decide +kernel
theorem dX12_step_58 : decode cX12_step 58 = .ok (.istore_n 2, 1) := by decide +kernel
theorem dX12_step_59 : decode cX12_step 59 = .ok (.aload_n 0, 1) := by decide +kernel
theorem dX12_step_60 : decode cX12_step 60 = .ok (.getfield 475, 3) := by decide +kernel
theorem dX12_step_63 : decode cX12_step 63 = .ok (.ifCond .ge 231, 3) := by decide +kernel
theorem dX12_step_66 : decode cX12_step 66 = .ok (.aload_n 0, 1) := by decide +kernel
theorem dX12_step_67 : decode cX12_step 67 = .ok (.getfield 171, 3) := by decide +kernel
theorem dX12_step_70 : decode cX12_step 70 = .ok (.aload_n 0, 1) := by decide +kernel
theorem dX12_step_71 : decode cX12_step 71 = .ok (.getfield 48, 3) := by decide +kernel
theorem dX12_step_74 : decode cX12_step 74 = .ok (.iload_n 1, 1) := by decide +kernel
theorem dX12_step_75 : decode cX12_step 75 = .ok (.iaload, 1) := by decide +kernel
theorem dX12_step_76 : decode cX12_step 76 = .ok (.iload_n 2, 1) := by decide +kernel
theorem dX12_step_77 : decode cX12_step 77 = .ok (.iastore, 1) := by decide +kernel
theorem dX12_step_78 : decode cX12_step 78 = .ok (.goto 216, 3) := by decide +kernel
theorem dX12_step_81 : decode cX12_step 81 = .ok (.aload_n 0, 1) := by decide +kernel
theorem dX12_step_82 : decode cX12_step 82 = .ok (.aload_n 0, 1) := by decide +kernel
theorem dX12_step_83 : decode cX12_step 83 = .ok (.getfield 54, 3) := by decide +kernel
theorem dX12_step_86 : decode cX12_step 86 = .ok (.iload_n 1, 1) := by decide +kernel
theorem dX12_step_87 : decode cX12_step 87 = .ok (.iaload, 1) := by decide +kernel
theorem dX12_step_88 : decode cX12_step 88 = .ok (.invokevirtual 499, 3) := by decide +kernel
theorem dX12_step_91 : decode cX12_step 91 = .ok (.istore_n 3, 1) := by decide +kernel
theorem dX12_step_92 : decode cX12_step 92 = .ok (.aload_n 0, 1) := by decide +kernel
theorem dX12_step_93 : decode cX12_step 93 = .ok (.getfield 475, 3) := by decide +kernel
theorem dX12_step_96 : decode cX12_step 96 = .ok (.ifCond .ge 16, 3) := by decide +kernel
theorem dX12_step_99 : decode cX12_step 99 = .ok (.aload_n 0, 1) := by decide +kernel
theorem dX12_step_100 : decode cX12_step 100 = .ok (.aload_n 0, 1) := by decide +kernel
theorem dX12_step_101 : decode cX12_step 101 = .ok (.getfield 57, 3) := by decide +kernel
theorem dX12_step_104 : decode cX12_step 104 = .ok (.iload_n 1, 1) := by decide +kernel
theorem dX12_step_105 : decode cX12_step 105 = .ok (.iaload, 1) := by decide +kernel
theorem dX12_step_106 : decode cX12_step 106 = .ok (.invokevirtual 499, 3) := by decide +kernel
theorem dX12_step_109 : decode cX12_step 109 = .ok (.goto 4, 3) := by decide +kernel
theorem dX12_step_112 : decode cX12_step 112 = .ok (.iconst 0, 1) := by decide +kernel
theorem dX12_step_113 : decode cX12_step 113 = .ok (.istore 4, 2) := by decide +kernel
theorem dX12_step_115 : decode cX12_step 115 = .ok (.aload_n 0, 1) := by decide +kernel
theorem dX12_step_116 : decode cX12_step 116 = .ok (.getfield 475, 3) := by decide +kernel
theorem dX12_step_119 : decode cX12_step 119 = .ok (.ifCond .ge 21, 3) := by decide +kernel
theorem dX12_step_122 : decode cX12_step 122 = .ok (.aload_n 0, 1) := by decide +kernel
theorem dX12_step_123 : decode cX12_step 123 = .ok (.iload_n 3, 1) := by decide +kernel
theorem dX12_step_124 : decode cX12_step 124 = .ok (.bipush 8, 2) := by decide +kernel
theorem dX12_step_126 : decode cX12_step 126 = .ok (.invokevirtual 186, 3) := by decide +kernel
theorem dX12_step_129 : decode cX12_step 129 = .ok (.ifCond .eq 11, 3) := by decide +kernel
theorem dX12_step_132 : decode cX12_step 132 = .ok (.aload_n 0, 1) := by decide +kernel
theorem dX12_step_133 : decode cX12_step 133 = .ok (.iconst 2, 1) := by decide +kernel
theorem dX12_step_134 : decode cX12_step 134 = .ok (.putfield 475, 3) := by decide +kernel
theorem dX12_step_137 : decode cX12_step 137 = .ok (.goto 157, 3) := by decide +kernel
theorem dX12_step_140 : decode cX12_step 140 = .ok (.aload_n 0, 1) := by decide +kernel
theorem dX12_step_141 : decode cX12_step 141 = .ok (.getfield 475, 3) := by decide +kernel
theorem dX12_step_144 : decode cX12_step 144 = .ok (.ifCond .ge 150, 3) := by decide +kernel
theorem dX12_step_147 : decode cX12_step 147 = .ok (.aload_n 0, 1) := by decide +kernel
theorem dX12_step_148 : decode cX12_step 148 = .ok (.getfield 174, 3) := by decide +kernel
theorem dX12_step_151 : decode cX12_step 151 = .ok (.bipush 8, 2) := by decide +kernel
theorem dX12_step_153 : decode cX12_step 153 = .ok (.aload_n 0, 1) := by decide +kernel
theorem dX12_step_154 : decode cX12_step 154 = .ok (.getfield 48, 3) := by decide +kernel
theorem dX12_step_157 : decode cX12_step 157 = .ok (.iload_n 1, 1) := by decide +kernel
theorem dX12_step_158 : decode cX12_step 158 = .ok (.iaload, 1) := by decide +kernel
theorem dX12_step_159 : decode cX12_step 159 = .ok (.imul, 1) := by decide +kernel
theorem dX12_step_160 : decode cX12_step 160 = .ok (.iload_n 3, 1) := by decide +kernel
theorem dX12_step_161 : decode cX12_step 161 = .ok (.iadd, 1) := by decide +kernel
theorem dX12_step_162 : decode cX12_step 162 = .ok (.iload 4, 2) := by decide +kernel
theorem dX12_step_164 : decode cX12_step 164 = .ok (.iastore, 1) := by decide +kernel
theorem dX12_step_165 : decode cX12_step 165 = .ok (.goto 129, 3) := by decide +kernel
theorem dX12_step_168 : decode cX12_step 168 = .ok (.aload_n 0, 1) := by decide +kernel
theorem dX12_step_169 : decode cX12_step 169 = .ok (.getfield 171, 3) := by decide +kernel
theorem dX12_step_172 : decode cX12_step 172 = .ok (.aload_n 0, 1) := by decide +kernel
theorem dX12_step_173 : decode cX12_step 173 = .ok (.getfield 48, 3) := by decide +kernel
theorem dX12_step_176 : decode cX12_step 176 = .ok (.iload_n 1, 1) := by decide +kernel
theorem dX12_step_177 : decode cX12_step 177 = .ok (.iaload, 1) := by decide +kernel
theorem dX12_step_178 : decode cX12_step 178 = .ok (.aload_n 0, 1) := by decide +kernel
theorem dX12_step_179 : decode cX12_step 179 = .ok (.aload_n 0, 1) := by decide +kernel
theorem dX12_step_180 : decode cX12_step 180 = .ok (.getfield 51, 3) := by decide +kernel
theorem dX12_step_183 : decode cX12_step 183 = .ok (.iload_n 1, 1) := by decide +kernel
theorem dX12_step_184 : decode cX12_step 184 = .ok (.iaload, 1) := by decide +kernel
theorem dX12_step_185 : decode cX12_step 185 = .ok (.invokevirtual 484, 3) := by decide +kernel
theorem dX12_step_188 : decode cX12_step 188 = .ok (.iastore, 1) := by decide +kernel
theorem dX12_step_189 : decode cX12_step 189 = .ok (.goto 105, 3) := by decide +kernel
theorem dX12_step_192 : decode cX12_step 192 = .ok (.aload_n 0, 1) := by decide +kernel
theorem dX12_step_193 : decode cX12_step 193 = .ok (.aload_n 0, 1) := by decide +kernel
theorem dX12_step_194 : decode cX12_step 194 = .ok (.aload_n 0, 1) := by decide +kernel
theorem dX12_step_195 : decode cX12_step 195 = .ok (.getfield 54, 3) := by decide +kernel
theorem dX12_step_198 : decode cX12_step 198 = .ok (.iload_n 1, 1) := by decide +kernel
theorem dX12_step_199 : decode cX12_step 199 = .ok (.iaload, 1) := by decide +kernel
theorem dX12_step_200 : decode cX12_step 200 = .ok (.invokevirtual 499, 3) := by decide +kernel
theorem dX12_step_203 : decode cX12_step 203 = .ok (.invokevirtual 481, 3) := by decide +kernel
theorem dX12_step_206 : decode cX12_step 206 = .ok (.aload_n 0, 1) := by decide +kernel
theorem dX12_step_207 : decode cX12_step 207 = .ok (.getfield 475, 3) := by decide +kernel
theorem dX12_step_210 : decode cX12_step 210 = .ok (.ifCond .ge 84, 3) := by decide +kernel
theorem dX12_step_213 : decode cX12_step 213 = .ok (.aload_n 0, 1) := by decide +kernel
theorem dX12_step_214 : decode cX12_step 214 = .ok (.aload_n 0, 1) := by decide +kernel
theorem dX12_step_215 : decode cX12_step 215 = .ok (.getfield 51, 3) := by decide +kernel
theorem dX12_step_218 : decode cX12_step 218 = .ok (.iload_n 1, 1) := by decide +kernel
theorem dX12_step_219 : decode cX12_step 219 = .ok (.iaload, 1) := by decide +kernel
theorem dX12_step_220 : decode cX12_step 220 = .ok (.invokevirtual 487, 3) := by decide +kernel
theorem dX12_step_223 : decode cX12_step 223 = .ok (.goto 71, 3) := by decide +kernel
theorem dX12_step_226 : decode cX12_step 226 = .ok (.aload_n 0, 1) := by decide +kernel
theorem dX12_step_227 : decode cX12_step 227 = .ok (.bipush 7, 2) := by decide +kernel
theorem dX12_step_229 : decode cX12_step 229 = .ok (.iload_n 1, 1) := by decide +kernel
theorem dX12_step_230 : decode cX12_step 230 = .ok (.invokevirtual 367, 3) := by decide +kernel
theorem dX12_step_233 : decode cX12_step 233 = .ok (.aload_n 0, 1) := by decide +kernel
theorem dX12_step_234 : decode cX12_step 234 = .ok (.getfield 75, 3) := by decide +kernel
theorem dX12_step_237 : decode cX12_step 237 = .ok (.bipush 26, 2) := by decide +kernel
theorem dX12_step_239 : decode cX12_step 239 = .ok (.aload_n 0, 1) := by decide +kernel
theorem dX12_step_240 : decode cX12_step 240 = .ok (.getfield 335, 3) := by decide +kernel
theorem dX12_step_243 : decode cX12_step 243 = .ok (.imul, 1) := by decide +kernel
theorem dX12_step_244 : decode cX12_step 244 = .ok (.aload_n 0, 1) := by decide +kernel
theorem dX12_step_245 : decode cX12_step 245 = .ok (.getfield 48, 3) := by decide +kernel
theorem dX12_step_248 : decode cX12_step 248 = .ok (.iload_n 1, 1) := by decide +kernel
theorem dX12_step_249 : decode cX12_step 249 = .ok (.iaload, 1) := by decide +kernel
theorem dX12_step_250 : decode cX12_step 250 = .ok (.iadd, 1) := by decide +kernel
theorem dX12_step_251 : decode cX12_step 251 = .ok (.iaload, 1) := by decide +kernel
theorem dX12_step_252 : decode cX12_step 252 = .ok (.ireturn, 1) := by decide +kernel
theorem dX12_step_253 : decode cX12_step 253 = .ok (.aload_n 0, 1) := by decide +kernel
theorem dX12_step_254 : decode cX12_step 254 = .ok (.iconst 3, 1) := by decide +kernel
theorem dX12_step_255 : decode cX12_step 255 = .ok (.iload_n 1, 1) := by decide +kernel
theorem dX12_step_256 : decode cX12_step 256 = .ok (.invokevirtual 367, 3) := by decide +kernel
theorem dX12_step_259 : decode cX12_step 259 = .ok (.aload_n 0, 1) := by decide +kernel
theorem dX12_step_260 : decode cX12_step 260 = .ok (.aload_n 0, 1) := by decide +kernel
theorem dX12_step_261 : decode cX12_step 261 = .ok (.getfield 54, 3) := by decide +kernel
theorem dX12_step_264 : decode cX12_step 264 = .ok (.iload_n 1, 1) := by decide +kernel
theorem dX12_step_265 : decode cX12_step 265 = .ok (.iaload, 1) := by decide +kernel
theorem dX12_step_266 : decode cX12_step 266 = .ok (.invokevirtual 499, 3) := by decide +kernel
theorem dX12_step_269 : decode cX12_step 269 = .ok (.ifCond .eq 12, 3) := by decide +kernel
theorem dX12_step_272 : decode cX12_step 272 = .ok (.aload_n 0, 1) := by decide +kernel
theorem dX12_step_273 : decode cX12_step 273 = .ok (.getfield 60, 3) := by decide +kernel
theorem dX12_step_276 : decode cX12_step 276 = .ok (.iload_n 1, 1) := by decide +kernel
theorem dX12_step_277 : decode cX12_step 277 = .ok (.iaload, 1) := by decide +kernel
theorem dX12_step_278 : decode cX12_step 278 = .ok (.goto 9, 3) := by decide +kernel
theorem dX12_step_281 : decode cX12_step 281 = .ok (.aload_n 0, 1) := by decide +kernel
theorem dX12_step_282 : decode cX12_step 282 = .ok (.getfield 63, 3) := by decide +kernel
theorem dX12_step_285 : decode cX12_step 285 = .ok (.iload_n 1, 1) := by decide +kernel
theorem dX12_step_286 : decode cX12_step 286 = .ok (.iaload, 1) := by decide +kernel
theorem dX12_step_287 : decode cX12_step 287 = .ok (.ireturn, 1) := by decide +kernel
theorem dX12_step_288 : decode cX12_step 288 = .ok (.aload_n 0, 1) := by decide +kernel
theorem dX12_step_289 : decode cX12_step 289 = .ok (.iload_n 1, 1) := by decide +kernel
theorem dX12_step_290 : decode cX12_step 290 = .ok (.invokevirtual 502, 3) := by decide +kernel
theorem dX12_step_293 : decode cX12_step 293 = .ok (.ireturn, 1) := by decide +kernel
theorem dX12_step_294 : decode cX12_step 294 = .ok (.aload_n 0, 1) := by decide +kernel
theorem dX12_step_295 : decode cX12_step 295 = .ok (.getfield 66, 3) := by decide +kernel
theorem dX12_step_298 : decode cX12_step 298 = .ok (.iload_n 1, 1) := by decide +kernel
theorem dX12_step_299 : decode cX12_step 299 = .ok (.iaload, 1) := by decide +kernel
theorem dX12_step_300 : decode cX12_step 300 = .ok (.ireturn, 1) := by decide +kernel
theorem dX12_round_0 : decode cX12_round 0 = .ok (.aload_n 0, 1) := by decide +kernel
theorem dX12_round_1 : decode cX12_round 1 = .ok (.aload_n 0, 1) := by decide +kernel
theorem dX12_round_2 : decode cX12_round 2 = .ok (.getfield 54, 3) := by decide +kernel
theorem dX12_round_5 : decode cX12_round 5 = .ok (.iload_n 1, 1) := by decide +kernel
theorem dX12_round_6 : decode cX12_round 6 = .ok (.iaload, 1) := by decide +kernel
theorem dX12_round_7 : decode cX12_round 7 = .ok (.invokevirtual 499, 3) := by decide +kernel
theorem dX12_round_10 : decode cX12_round 10 = .ok (.ifCond .ne 10, 3) := by decide +kernel
theorem dX12_round_13 : decode cX12_round 13 = .ok (.aload_n 0, 1) := by decide +kernel
theorem dX12_round_14 : decode cX12_round 14 = .ok (.getfield 66, 3) := by decide +kernel
theorem dX12_round_17 : decode cX12_round 17 = .ok (.iload_n 1, 1) := by decide +kernel
theorem dX12_round_18 : decode cX12_round 18 = .ok (.iaload, 1) := by decide +kernel
theorem dX12_round_19 : decode cX12_round 19 = .ok (.ireturn, 1) := by decide +kernel
theorem dX12_round_20 : decode cX12_round 20 = .ok (.aload_n 0, 1) := by decide +kernel
theorem dX12_round_21 : decode cX12_round 21 = .ok (.iconst 4, 1) := by decide +kernel
theorem dX12_round_22 : decode cX12_round 22 = .ok (.iload_n 1, 1) := by decide +kernel
theorem dX12_round_23 : decode cX12_round 23 = .ok (.invokevirtual 367, 3) := by decide +kernel
theorem dX12_round_26 : decode cX12_round 26 = .ok (.aload_n 0, 1) := by decide +kernel
theorem dX12_round_27 : decode cX12_round 27 = .ok (.getfield 60, 3) := by decide +kernel
theorem dX12_round_30 : decode cX12_round 30 = .ok (.iload_n 1, 1) := by decide +kernel
theorem dX12_round_31 : decode cX12_round 31 = .ok (.iaload, 1) := by decide +kernel
theorem dX12_round_32 : decode cX12_round 32 = .ok (.ireturn, 1) := by decide +kernel
theorem dX12_walk_0 : decode cX12_walk 0 = .ok (.aload_n 0, 1) := by decide +kernel
theorem dX12_walk_1 : decode cX12_walk 1 = .ok (.iconst 0, 1) := by decide +kernel
theorem dX12_walk_2 : decode cX12_walk 2 = .ok (.putfield 183, 3) := by decide +kernel
theorem dX12_walk_5 : decode cX12_walk 5 = .ok (.iload_n 1, 1) := by decide +kernel
theorem dX12_walk_6 : decode cX12_walk 6 = .ok (.iconst 1, 1) := by decide +kernel
theorem dX12_walk_7 : decode cX12_walk 7 = .ok (.if_icmp .lt 10, 3) := by decide +kernel
theorem dX12_walk_10 : decode cX12_walk 10 = .ok (.iload_n 1, 1) := by decide +kernel
theorem dX12_walk_11 : decode cX12_walk 11 = .ok (.sipush 600, 3) := by decide +kernel
theorem dX12_walk_14 : decode cX12_walk 14 = .ok (.if_icmp .le 9, 3) := by decide +kernel
theorem dX12_walk_17 : decode cX12_walk 17 = .ok (.aload_n 0, 1) := by decide +kernel
theorem dX12_walk_18 : decode cX12_walk 18 = .ok (.iconst 1, 1) := by decide +kernel
theorem dX12_walk_19 : decode cX12_walk 19 = .ok (.invokevirtual 190, 3) := by decide +kernel
theorem dX12_walk_22 : decode cX12_walk 22 = .ok (.ireturn, 1) := by decide +kernel
theorem dX12_walk_23 : decode cX12_walk 23 = .ok (.aload_n 0, 1) := by decide +kernel
theorem dX12_walk_24 : decode cX12_walk 24 = .ok (.getfield 332, 3) := by decide +kernel
theorem dX12_walk_27 : decode cX12_walk 27 = .ok (.ifCond .ne 9, 3) := by decide +kernel
theorem dX12_walk_30 : decode cX12_walk 30 = .ok (.aload_n 0, 1) := by decide +kernel
theorem dX12_walk_31 : decode cX12_walk 31 = .ok (.iconst 2, 1) := by decide +kernel
theorem dX12_walk_32 : decode cX12_walk 32 = .ok (.invokevirtual 190, 3) := by decide +kernel
theorem dX12_walk_35 : decode cX12_walk 35 = .ok (.ireturn, 1) := by decide +kernel
theorem dX12_walk_36 : decode cX12_walk 36 = .ok (.aload_n 0, 1) := by decide +kernel
theorem dX12_walk_37 : decode cX12_walk 37 = .ok (.invokevirtual 493, 3) := by decide +kernel
theorem dX12_walk_40 : decode cX12_walk 40 = .ok (.aload_n 0, 1) := by decide +kernel
theorem dX12_walk_41 : decode cX12_walk 41 = .ok (.iconst 0, 1) := by decide +kernel
theorem dX12_walk_42 : decode cX12_walk 42 = .ok (.putfield 351, 3) := by decide +kernel
theorem dX12_walk_45 : decode cX12_walk 45 = .ok (.aload_n 0, 1) := by decide +kernel
theorem dX12_walk_46 : decode cX12_walk 46 = .ok (.getfield 78, 3) := by decide +kernel
theorem dX12_walk_49 : decode cX12_walk 49 = .ok (.aload_n 0, 1) := by decide +kernel
theorem dX12_walk_50 : decode cX12_walk 50 = .ok (.getfield 335, 3) := by decide +kernel
theorem dX12_walk_53 : decode cX12_walk 53 = .ok (.iaload, 1) := by decide +kernel
theorem dX12_walk_54 : decode cX12_walk 54 = .ok (.istore_n 2, 1) := by decide +kernel
theorem dX12_walk_55 : decode cX12_walk 55 = .ok (.aload_n 0, 1) := by decide +kernel
theorem dX12_walk_56 : decode cX12_walk 56 = .ok (.getfield 475, 3) := by decide +kernel
theorem dX12_walk_59 : decode cX12_walk 59 = .ok (.ifCond .ge 103, 3) := by decide +kernel
theorem dX12_walk_62 : decode cX12_walk 62 = .ok (.iload_n 2, 1) := by decide +kernel
theorem dX12_walk_63 : decode cX12_walk 63 = .ok (.ifCond .ge 18, 3) := by decide +kernel
theorem dX12_walk_66 : decode cX12_walk 66 = .ok (.aload_n 0, 1) := by decide +kernel
theorem dX12_walk_67 : decode cX12_walk 67 = .ok (.getfield 351, 3) := by decide +kernel
theorem dX12_walk_70 : decode cX12_walk 70 = .ok (.ifCond .ne 11, 3) := by decide +kernel
theorem dX12_walk_73 : decode cX12_walk 73 = .ok (.aload_n 0, 1) := by decide +kernel
theorem dX12_walk_74 : decode cX12_walk 74 = .ok (.iconst 0, 1) := by decide +kernel
theorem dX12_walk_75 : decode cX12_walk 75 = .ok (.putfield 475, 3) := by decide +kernel
theorem dX12_walk_78 : decode cX12_walk 78 = .ok (.goto (-23), 3) := by decide +kernel
theorem dX12_walk_81 : decode cX12_walk 81 = .ok (.iload_n 2, 1) := by decide +kernel
theorem dX12_walk_82 : decode cX12_walk 82 = .ok (.ifCond .lt 20, 3) := by decide +kernel
theorem dX12_walk_85 : decode cX12_walk 85 = .ok (.aload_n 0, 1) := by decide +kernel
theorem dX12_walk_86 : decode cX12_walk 86 = .ok (.iload_n 1, 1) := by decide +kernel
theorem dX12_walk_87 : decode cX12_walk 87 = .ok (.invokevirtual 505, 3) := by decide +kernel
theorem dX12_walk_90 : decode cX12_walk 90 = .ok (.ifCond .eq (-35), 3) := by decide +kernel
theorem dX12_walk_93 : decode cX12_walk 93 = .ok (.aload_n 0, 1) := by decide +kernel
theorem dX12_walk_94 : decode cX12_walk 94 = .ok (.iload_n 2, 1) := by decide +kernel
theorem dX12_walk_95 : decode cX12_walk 95 = .ok (.invokevirtual 508, 3) := by decide +kernel
theorem dX12_walk_98 : decode cX12_walk 98 = .ok (.istore_n 2, 1) := by decide +kernel
theorem dX12_walk_99 : decode cX12_walk 99 = .ok (.goto (-44), 3) := by decide +kernel
theorem dX12_walk_102 : decode cX12_walk 102 = .ok (.aload_n 0, 1) := by decide +kernel
theorem dX12_walk_103 : decode cX12_walk 103 = .ok (.dup, 1) := by decide +kernel
theorem dX12_walk_104 : decode cX12_walk 104 = .ok (.getfield 351, 3) := by decide +kernel
theorem dX12_walk_107 : decode cX12_walk 107 = .ok (.iconst 1, 1) := by decide +kernel
theorem dX12_walk_108 : decode cX12_walk 108 = .ok (.isub, 1) := by decide +kernel
theorem dX12_walk_109 : decode cX12_walk 109 = .ok (.putfield 351, 3) := by decide +kernel
theorem dX12_walk_112 : decode cX12_walk 112 = .ok (.aload_n 0, 1) := by decide +kernel
theorem dX12_walk_113 : decode cX12_walk 113 = .ok (.getfield 111, 3) := by decide +kernel
theorem dX12_walk_116 : decode cX12_walk 116 = .ok (.aload_n 0, 1) := by decide +kernel
theorem dX12_walk_117 : decode cX12_walk 117 = .ok (.getfield 351, 3) := by decide +kernel
theorem dX12_walk_120 : decode cX12_walk 120 = .ok (.iaload, 1) := by decide +kernel
theorem dX12_walk_121 : decode cX12_walk 121 = .ok (.istore_n 2, 1) := by decide +kernel
theorem dX12_walk_122 : decode cX12_walk 122 = .ok (.aload_n 0, 1) := by decide +kernel
theorem dX12_walk_123 : decode cX12_walk 123 = .ok (.getfield 108, 3) := by decide +kernel
theorem dX12_walk_126 : decode cX12_walk 126 = .ok (.aload_n 0, 1) := by decide +kernel
theorem dX12_walk_127 : decode cX12_walk 127 = .ok (.getfield 351, 3) := by decide +kernel
theorem dX12_walk_130 : decode cX12_walk 130 = .ok (.iaload, 1) := by decide +kernel
theorem dX12_walk_131 : decode cX12_walk 131 = .ok (.iconst 4, 1) := by decide +kernel
theorem dX12_walk_132 : decode cX12_walk 132 = .ok (.if_icmp .eq 13, 3) := by decide +kernel
theorem dX12_walk_135 : decode cX12_walk 135 = .ok (.aload_n 0, 1) := by decide +kernel
theorem dX12_walk_136 : decode cX12_walk 136 = .ok (.getfield 66, 3) := by decide +kernel
theorem dX12_walk_139 : decode cX12_walk 139 = .ok (.iload_n 2, 1) := by decide +kernel
theorem dX12_walk_140 : decode cX12_walk 140 = .ok (.iaload, 1) := by decide +kernel
theorem dX12_walk_141 : decode cX12_walk 141 = .ok (.istore_n 2, 1) := by decide +kernel
theorem dX12_walk_142 : decode cX12_walk 142 = .ok (.goto (-87), 3) := by decide +kernel
theorem dX12_walk_145 : decode cX12_walk 145 = .ok (.aload_n 0, 1) := by decide +kernel
theorem dX12_walk_146 : decode cX12_walk 146 = .ok (.iload_n 1, 1) := by decide +kernel
theorem dX12_walk_147 : decode cX12_walk 147 = .ok (.invokevirtual 505, 3) := by decide +kernel
theorem dX12_walk_150 : decode cX12_walk 150 = .ok (.ifCond .eq (-95), 3) := by decide +kernel
theorem dX12_walk_153 : decode cX12_walk 153 = .ok (.aload_n 0, 1) := by decide +kernel
theorem dX12_walk_154 : decode cX12_walk 154 = .ok (.iload_n 2, 1) := by decide +kernel
theorem dX12_walk_155 : decode cX12_walk 155 = .ok (.invokevirtual 502, 3) := by decide +kernel
theorem dX12_walk_158 : decode cX12_walk 158 = .ok (.istore_n 2, 1) := by decide +kernel
theorem dX12_walk_159 : decode cX12_walk 159 = .ok (.goto (-104), 3) := by decide +kernel
theorem dX12_walk_162 : decode cX12_walk 162 = .ok (.aload_n 0, 1) := by decide +kernel
theorem dX12_walk_163 : decode cX12_walk 163 = .ok (.getfield 475, 3) := by decide +kernel
theorem dX12_walk_166 : decode cX12_walk 166 = .ok (.ireturn, 1) := by decide +kernel
theorem dX12_output_0 : decode cX12_output 0 = .ok (.aload_n 0, 1) := by decide +kernel
theorem dX12_output_1 : decode cX12_output 1 = .ok (.iconst 0, 1) := by decide +kernel
theorem dX12_output_2 : decode cX12_output 2 = .ok (.putfield 183, 3) := by decide +kernel
theorem dX12_output_5 : decode cX12_output 5 = .ok (.aload_n 0, 1) := by decide +kernel
theorem dX12_output_6 : decode cX12_output 6 = .ok (.iload_n 1, 1) := by decide +kernel
theorem dX12_output_7 : decode cX12_output 7 = .ok (.aload_n 0, 1) := by decide +kernel
theorem dX12_output_8 : decode cX12_output 8 = .ok (.getfield 180, 3) := by decide +kernel
theorem dX12_output_11 : decode cX12_output 11 = .ok (.invokevirtual 186, 3) := by decide +kernel
theorem dX12_output_14 : decode cX12_output 14 = .ok (.ifCond .ne 7, 3) := by decide +kernel
theorem dX12_output_17 : decode cX12_output 17 = .ok (.iload_n 2, 1) := by decide +kernel
theorem dX12_output_18 : decode cX12_output 18 = .ok (.ifCond .ge 9, 3) := by decide +kernel
theorem dX12_output_21 : decode cX12_output 21 = .ok (.aload_n 0, 1) := by decide +kernel
theorem dX12_output_22 : decode cX12_output 22 = .ok (.iconst 1, 1) := by decide +kernel
theorem dX12_output_23 : decode cX12_output 23 = .ok (.invokevirtual 190, 3) := by decide +kernel
theorem dX12_output_26 : decode cX12_output 26 = .ok (.ireturn, 1) := by decide +kernel
theorem dX12_output_27 : decode cX12_output 27 = .ok (.iload_n 2, 1) := by decide +kernel
theorem dX12_output_28 : decode cX12_output 28 = .ok (.aload_n 0, 1) := by decide +kernel
theorem dX12_output_29 : decode cX12_output 29 = .ok (.getfield 168, 3) := by decide +kernel
theorem dX12_output_32 : decode cX12_output 32 = .ok (.iload_n 1, 1) := by decide +kernel
theorem dX12_output_33 : decode cX12_output 33 = .ok (.iaload, 1) := by decide +kernel
theorem dX12_output_34 : decode cX12_output 34 = .ok (.if_icmp .lt 9, 3) := by decide +kernel
theorem dX12_output_37 : decode cX12_output 37 = .ok (.aload_n 0, 1) := by decide +kernel
theorem dX12_output_38 : decode cX12_output 38 = .ok (.iconst 2, 1) := by decide +kernel
theorem dX12_output_39 : decode cX12_output 39 = .ok (.invokevirtual 190, 3) := by decide +kernel
theorem dX12_output_42 : decode cX12_output 42 = .ok (.ireturn, 1) := by decide +kernel
theorem dX12_output_43 : decode cX12_output 43 = .ok (.aload_n 0, 1) := by decide +kernel
theorem dX12_output_44 : decode cX12_output 44 = .ok (.getfield 165, 3) := by decide +kernel
theorem dX12_output_47 : decode cX12_output 47 = .ok (.bipush 20, 2) := by decide +kernel
theorem dX12_output_49 : decode cX12_output 49 = .ok (.iload_n 1, 1) := by decide +kernel
theorem dX12_output_50 : decode cX12_output 50 = .ok (.imul, 1) := by decide +kernel
theorem dX12_output_51 : decode cX12_output 51 = .ok (.iload_n 2, 1) := by decide +kernel
theorem dX12_output_52 : decode cX12_output 52 = .ok (.iadd, 1) := by decide +kernel
theorem dX12_output_53 : decode cX12_output 53 = .ok (.iaload, 1) := by decide +kernel
theorem dX12_output_54 : decode cX12_output 54 = .ok (.ireturn, 1) := by decide +kernel
theorem dX12_value_0 : decode cX12_value 0 = .ok (.aload_n 0, 1) := by decide +kernel
theorem dX12_value_1 : decode cX12_value 1 = .ok (.iconst 0, 1) := by decide +kernel
theorem dX12_value_2 : decode cX12_value 2 = .ok (.putfield 183, 3) := by decide +kernel
theorem dX12_value_5 : decode cX12_value 5 = .ok (.aload_n 0, 1) := by decide +kernel
theorem dX12_value_6 : decode cX12_value 6 = .ok (.iload_n 1, 1) := by decide +kernel
theorem dX12_value_7 : decode cX12_value 7 = .ok (.sipush 234, 3) := by decide +kernel
theorem dX12_value_10 : decode cX12_value 10 = .ok (.invokevirtual 186, 3) := by decide +kernel
theorem dX12_value_13 : decode cX12_value 13 = .ok (.ifCond .eq 9, 3) := by decide +kernel
theorem dX12_value_16 : decode cX12_value 16 = .ok (.aload_n 0, 1) := by decide +kernel
theorem dX12_value_17 : decode cX12_value 17 = .ok (.iconst 1, 1) := by decide +kernel
theorem dX12_value_18 : decode cX12_value 18 = .ok (.invokevirtual 190, 3) := by decide +kernel
theorem dX12_value_21 : decode cX12_value 21 = .ok (.ireturn, 1) := by decide +kernel
theorem dX12_value_22 : decode cX12_value 22 = .ok (.iload_n 1, 1) := by decide +kernel
theorem dX12_value_23 : decode cX12_value 23 = .ok (.bipush 26, 2) := by decide +kernel
theorem dX12_value_25 : decode cX12_value 25 = .ok (.if_icmp .ge 12, 3) := by decide +kernel
theorem dX12_value_28 : decode cX12_value 28 = .ok (.aload_n 0, 1) := by decide +kernel
theorem dX12_value_29 : decode cX12_value 29 = .ok (.getfield 171, 3) := by decide +kernel
theorem dX12_value_32 : decode cX12_value 32 = .ok (.iload_n 1, 1) := by decide +kernel
theorem dX12_value_33 : decode cX12_value 33 = .ok (.iaload, 1) := by decide +kernel
theorem dX12_value_34 : decode cX12_value 34 = .ok (.goto 12, 3) := by decide +kernel
theorem dX12_value_37 : decode cX12_value 37 = .ok (.aload_n 0, 1) := by decide +kernel
theorem dX12_value_38 : decode cX12_value 38 = .ok (.getfield 174, 3) := by decide +kernel
theorem dX12_value_41 : decode cX12_value 41 = .ok (.iload_n 1, 1) := by decide +kernel
theorem dX12_value_42 : decode cX12_value 42 = .ok (.bipush 26, 2) := by decide +kernel
theorem dX12_value_44 : decode cX12_value 44 = .ok (.isub, 1) := by decide +kernel
theorem dX12_value_45 : decode cX12_value 45 = .ok (.iaload, 1) := by decide +kernel
theorem dX12_value_46 : decode cX12_value 46 = .ok (.ireturn, 1) := by decide +kernel
theorem dX12_instruction_0 : decode cX12_instruction 0 = .ok (.aload_n 0, 1) := by decide +kernel
theorem dX12_instruction_1 : decode cX12_instruction 1 = .ok (.iconst 0, 1) := by decide +kernel
theorem dX12_instruction_2 : decode cX12_instruction 2 = .ok (.putfield 183, 3) := by decide +kernel
theorem dX12_instruction_5 : decode cX12_instruction 5 = .ok (.aload_n 0, 1) := by decide +kernel
theorem dX12_instruction_6 : decode cX12_instruction 6 = .ok (.iload_n 1, 1) := by decide +kernel
theorem dX12_instruction_7 : decode cX12_instruction 7 = .ok (.aload_n 0, 1) := by decide +kernel
theorem dX12_instruction_8 : decode cX12_instruction 8 = .ok (.getfield 406, 3) := by decide +kernel
theorem dX12_instruction_11 : decode cX12_instruction 11 = .ok (.invokevirtual 186, 3) := by decide +kernel
theorem dX12_instruction_14 : decode cX12_instruction 14 = .ok (.ifCond .eq 9, 3) := by decide +kernel
theorem dX12_instruction_17 : decode cX12_instruction 17 = .ok (.aload_n 0, 1) := by decide +kernel
theorem dX12_instruction_18 : decode cX12_instruction 18 = .ok (.iconst 1, 1) := by decide +kernel
theorem dX12_instruction_19 : decode cX12_instruction 19 = .ok (.invokevirtual 190, 3) := by decide +kernel
theorem dX12_instruction_22 : decode cX12_instruction 22 = .ok (.ireturn, 1) := by decide +kernel
theorem dX12_instruction_23 : decode cX12_instruction 23 = .ok (.iload_n 2, 1) := by decide +kernel
theorem dX12_instruction_24 : decode cX12_instruction 24 = .ok (.ifCond .eq 12, 3) := by decide +kernel
theorem dX12_instruction_27 : decode cX12_instruction 27 = .ok (.aload_n 0, 1) := by decide +kernel
theorem dX12_instruction_28 : decode cX12_instruction 28 = .ok (.getfield 33, 3) := by decide +kernel
theorem dX12_instruction_31 : decode cX12_instruction 31 = .ok (.iload_n 1, 1) := by decide +kernel
theorem dX12_instruction_32 : decode cX12_instruction 32 = .ok (.iaload, 1) := by decide +kernel
theorem dX12_instruction_33 : decode cX12_instruction 33 = .ok (.goto 9, 3) := by decide +kernel
theorem dX12_instruction_36 : decode cX12_instruction 36 = .ok (.aload_n 0, 1) := by decide +kernel
theorem dX12_instruction_37 : decode cX12_instruction 37 = .ok (.getfield 30, 3) := by decide +kernel
theorem dX12_instruction_40 : decode cX12_instruction 40 = .ok (.iload_n 1, 1) := by decide +kernel
theorem dX12_instruction_41 : decode cX12_instruction 41 = .ok (.iaload, 1) := by decide +kernel
theorem dX12_instruction_42 : decode cX12_instruction 42 = .ok (.ireturn, 1) := by decide +kernel
theorem dX12_count_0 : decode cX12_count 0 = .ok (.aload_n 0, 1) := by decide +kernel
theorem dX12_count_1 : decode cX12_count 1 = .ok (.iconst 0, 1) := by decide +kernel
theorem dX12_count_2 : decode cX12_count 2 = .ok (.putfield 183, 3) := by decide +kernel
theorem dX12_count_5 : decode cX12_count 5 = .ok (.iload_n 1, 1) := by decide +kernel
theorem dX12_count_6 : decode cX12_count 6 = .ok (.tableswitch 119 0 8 #[50, 55, 68, 73, 78, 91, 104, 109, 114], 50) := by decide +kernel
theorem dX12_count_56 : decode cX12_count 56 = .ok (.aload_n 0, 1) := by decide +kernel
theorem dX12_count_57 : decode cX12_count 57 = .ok (.getfield 180, 3) := by decide +kernel
theorem dX12_count_60 : decode cX12_count 60 = .ok (.ireturn, 1) := by decide +kernel
theorem dX12_count_61 : decode cX12_count 61 = .ok (.aload_n 0, 1) := by decide +kernel
theorem dX12_count_62 : decode cX12_count 62 = .ok (.getfield 194, 3) := by decide +kernel
theorem dX12_count_65 : decode cX12_count 65 = .ok (.ifCond .eq 7, 3) := by decide +kernel
theorem dX12_count_68 : decode cX12_count 68 = .ok (.iconst 1, 1) := by decide +kernel
theorem dX12_count_69 : decode cX12_count 69 = .ok (.goto 4, 3) := by decide +kernel
theorem dX12_count_72 : decode cX12_count 72 = .ok (.iconst 0, 1) := by decide +kernel
theorem dX12_count_73 : decode cX12_count 73 = .ok (.ireturn, 1) := by decide +kernel
theorem dX12_count_74 : decode cX12_count 74 = .ok (.aload_n 0, 1) := by decide +kernel
theorem dX12_count_75 : decode cX12_count 75 = .ok (.getfield 219, 3) := by decide +kernel
theorem dX12_count_78 : decode cX12_count 78 = .ok (.ireturn, 1) := by decide +kernel
theorem dX12_count_79 : decode cX12_count 79 = .ok (.aload_n 0, 1) := by decide +kernel
theorem dX12_count_80 : decode cX12_count 80 = .ok (.getfield 406, 3) := by decide +kernel
theorem dX12_count_83 : decode cX12_count 83 = .ok (.ireturn, 1) := by decide +kernel
theorem dX12_count_84 : decode cX12_count 84 = .ok (.aload_n 0, 1) := by decide +kernel
theorem dX12_count_85 : decode cX12_count 85 = .ok (.getfield 409, 3) := by decide +kernel
theorem dX12_count_88 : decode cX12_count 88 = .ok (.ifCond .eq 7, 3) := by decide +kernel
theorem dX12_count_91 : decode cX12_count 91 = .ok (.iconst 1, 1) := by decide +kernel
theorem dX12_count_92 : decode cX12_count 92 = .ok (.goto 4, 3) := by decide +kernel
theorem dX12_count_95 : decode cX12_count 95 = .ok (.iconst 0, 1) := by decide +kernel
theorem dX12_count_96 : decode cX12_count 96 = .ok (.ireturn, 1) := by decide +kernel
theorem dX12_count_97 : decode cX12_count 97 = .ok (.aload_n 0, 1) := by decide +kernel
theorem dX12_count_98 : decode cX12_count 98 = .ok (.getfield 332, 3) := by decide +kernel
theorem dX12_count_101 : decode cX12_count 101 = .ok (.ifCond .eq 7, 3) := by decide +kernel
theorem dX12_count_104 : decode cX12_count 104 = .ok (.iconst 1, 1) := by decide +kernel
theorem dX12_count_105 : decode cX12_count 105 = .ok (.goto 4, 3) := by decide +kernel
theorem dX12_count_108 : decode cX12_count 108 = .ok (.iconst 0, 1) := by decide +kernel
theorem dX12_count_109 : decode cX12_count 109 = .ok (.ireturn, 1) := by decide +kernel
theorem dX12_count_110 : decode cX12_count 110 = .ok (.aload_n 0, 1) := by decide +kernel
theorem dX12_count_111 : decode cX12_count 111 = .ok (.getfield 472, 3) := by decide +kernel
theorem dX12_count_114 : decode cX12_count 114 = .ok (.ireturn, 1) := by decide +kernel
theorem dX12_count_115 : decode cX12_count 115 = .ok (.aload_n 0, 1) := by decide +kernel
theorem dX12_count_116 : decode cX12_count 116 = .ok (.getfield 20, 3) := by decide +kernel
theorem dX12_count_119 : decode cX12_count 119 = .ok (.ireturn, 1) := by decide +kernel
theorem dX12_count_120 : decode cX12_count 120 = .ok (.aload_n 0, 1) := by decide +kernel
theorem dX12_count_121 : decode cX12_count 121 = .ok (.getfield 24, 3) := by decide +kernel
theorem dX12_count_124 : decode cX12_count 124 = .ok (.ireturn, 1) := by decide +kernel
theorem dX12_count_125 : decode cX12_count 125 = .ok (.aload_n 0, 1) := by decide +kernel
theorem dX12_count_126 : decode cX12_count 126 = .ok (.iconst 1, 1) := by decide +kernel
theorem dX12_count_127 : decode cX12_count 127 = .ok (.invokevirtual 190, 3) := by decide +kernel
theorem dX12_count_130 : decode cX12_count 130 = .ok (.ireturn, 1) := by decide +kernel
theorem dJ11_isValidCodePoint_9a6ad_0 : decode cJ11_isValidCodePoint_9a6ad 0 = .ok (.iload_n 0, 1) := by decide +kernel
theorem dJ11_isValidCodePoint_9a6ad_1 : decode cJ11_isValidCodePoint_9a6ad 1 = .ok (.bipush 16, 2) := by decide +kernel
theorem dJ11_isValidCodePoint_9a6ad_3 : decode cJ11_isValidCodePoint_9a6ad 3 = .ok (.iushr, 1) := by decide +kernel
theorem dJ11_isValidCodePoint_9a6ad_4 : decode cJ11_isValidCodePoint_9a6ad 4 = .ok (.istore_n 1, 1) := by decide +kernel
theorem dJ11_isValidCodePoint_9a6ad_5 : decode cJ11_isValidCodePoint_9a6ad 5 = .ok (.iload_n 1, 1) := by decide +kernel
theorem dJ11_isValidCodePoint_9a6ad_6 : decode cJ11_isValidCodePoint_9a6ad 6 = .ok (.bipush 17, 2) := by decide +kernel
theorem dJ11_isValidCodePoint_9a6ad_8 : decode cJ11_isValidCodePoint_9a6ad 8 = .ok (.if_icmp .ge 7, 3) := by decide +kernel
theorem dJ11_isValidCodePoint_9a6ad_11 : decode cJ11_isValidCodePoint_9a6ad 11 = .ok (.iconst 1, 1) := by decide +kernel
theorem dJ11_isValidCodePoint_9a6ad_12 : decode cJ11_isValidCodePoint_9a6ad 12 = .ok (.goto 4, 3) := by decide +kernel
theorem dJ11_isValidCodePoint_9a6ad_15 : decode cJ11_isValidCodePoint_9a6ad 15 = .ok (.iconst 0, 1) := by decide +kernel
theorem dJ11_isValidCodePoint_9a6ad_16 : decode cJ11_isValidCodePoint_9a6ad 16 = .ok (.ireturn, 1) := by decide +kernel
theorem dJ11_highSurrogate_5068e_0 : decode cJ11_highSurrogate_5068e 0 = .ok (.iload_n 0, 1) := by decide +kernel
theorem dJ11_highSurrogate_5068e_1 : decode cJ11_highSurrogate_5068e 1 = .ok (.bipush 10, 2) := by decide +kernel
theorem dJ11_highSurrogate_5068e_3 : decode cJ11_highSurrogate_5068e 3 = .ok (.iushr, 1) := by decide +kernel
theorem dJ11_highSurrogate_5068e_4 : decode cJ11_highSurrogate_5068e 4 = .ok (.ldc 110, 2) := by decide +kernel
theorem dJ11_highSurrogate_5068e_6 : decode cJ11_highSurrogate_5068e 6 = .ok (.iadd, 1) := by decide +kernel
theorem dJ11_highSurrogate_5068e_7 : decode cJ11_highSurrogate_5068e 7 = .ok (.i2c, 1) := by decide +kernel
theorem dJ11_highSurrogate_5068e_8 : decode cJ11_highSurrogate_5068e 8 = .ok (.ireturn, 1) := by decide +kernel
theorem dJ11_lowSurrogate_5068e_0 : decode cJ11_lowSurrogate_5068e 0 = .ok (.iload_n 0, 1) := by decide +kernel
theorem dJ11_lowSurrogate_5068e_1 : decode cJ11_lowSurrogate_5068e 1 = .ok (.sipush 1023, 3) := by decide +kernel
theorem dJ11_lowSurrogate_5068e_4 : decode cJ11_lowSurrogate_5068e 4 = .ok (.iand, 1) := by decide +kernel
theorem dJ11_lowSurrogate_5068e_5 : decode cJ11_lowSurrogate_5068e 5 = .ok (.ldc 76, 2) := by decide +kernel
theorem dJ11_lowSurrogate_5068e_7 : decode cJ11_lowSurrogate_5068e 7 = .ok (.iadd, 1) := by decide +kernel
theorem dJ11_lowSurrogate_5068e_8 : decode cJ11_lowSurrogate_5068e 8 = .ok (.i2c, 1) := by decide +kernel
theorem dJ11_lowSurrogate_5068e_9 : decode cJ11_lowSurrogate_5068e 9 = .ok (.ireturn, 1) := by decide +kernel
theorem dJ6_bitCount_0f7a4_0 : decode cJ6_bitCount_0f7a4 0 = .ok (.iload_n 0, 1) := by decide +kernel
theorem dJ6_bitCount_0f7a4_1 : decode cJ6_bitCount_0f7a4 1 = .ok (.iload_n 0, 1) := by decide +kernel
theorem dJ6_bitCount_0f7a4_2 : decode cJ6_bitCount_0f7a4 2 = .ok (.iconst 1, 1) := by decide +kernel
theorem dJ6_bitCount_0f7a4_3 : decode cJ6_bitCount_0f7a4 3 = .ok (.iushr, 1) := by decide +kernel
theorem dJ6_bitCount_0f7a4_4 : decode cJ6_bitCount_0f7a4 4 = .ok (.ldc_w 265, 3) := by decide +kernel
theorem dJ6_bitCount_0f7a4_7 : decode cJ6_bitCount_0f7a4 7 = .ok (.iand, 1) := by decide +kernel
theorem dJ6_bitCount_0f7a4_8 : decode cJ6_bitCount_0f7a4 8 = .ok (.isub, 1) := by decide +kernel
theorem dJ6_bitCount_0f7a4_9 : decode cJ6_bitCount_0f7a4 9 = .ok (.istore_n 0, 1) := by decide +kernel
theorem dJ6_bitCount_0f7a4_10 : decode cJ6_bitCount_0f7a4 10 = .ok (.iload_n 0, 1) := by decide +kernel
theorem dJ6_bitCount_0f7a4_11 : decode cJ6_bitCount_0f7a4 11 = .ok (.ldc_w 266, 3) := by decide +kernel
theorem dJ6_bitCount_0f7a4_14 : decode cJ6_bitCount_0f7a4 14 = .ok (.iand, 1) := by decide +kernel
theorem dJ6_bitCount_0f7a4_15 : decode cJ6_bitCount_0f7a4 15 = .ok (.iload_n 0, 1) := by decide +kernel
theorem dJ6_bitCount_0f7a4_16 : decode cJ6_bitCount_0f7a4 16 = .ok (.iconst 2, 1) := by decide +kernel
theorem dJ6_bitCount_0f7a4_17 : decode cJ6_bitCount_0f7a4 17 = .ok (.iushr, 1) := by decide +kernel
theorem dJ6_bitCount_0f7a4_18 : decode cJ6_bitCount_0f7a4 18 = .ok (.ldc_w 266, 3) := by decide +kernel
theorem dJ6_bitCount_0f7a4_21 : decode cJ6_bitCount_0f7a4 21 = .ok (.iand, 1) := by decide +kernel
theorem dJ6_bitCount_0f7a4_22 : decode cJ6_bitCount_0f7a4 22 = .ok (.iadd, 1) := by decide +kernel
theorem dJ6_bitCount_0f7a4_23 : decode cJ6_bitCount_0f7a4 23 = .ok (.istore_n 0, 1) := by decide +kernel
theorem dJ6_bitCount_0f7a4_24 : decode cJ6_bitCount_0f7a4 24 = .ok (.iload_n 0, 1) := by decide +kernel
theorem dJ6_bitCount_0f7a4_25 : decode cJ6_bitCount_0f7a4 25 = .ok (.iload_n 0, 1) := by decide +kernel
theorem dJ6_bitCount_0f7a4_26 : decode cJ6_bitCount_0f7a4 26 = .ok (.iconst 4, 1) := by decide +kernel
theorem dJ6_bitCount_0f7a4_27 : decode cJ6_bitCount_0f7a4 27 = .ok (.iushr, 1) := by decide +kernel
theorem dJ6_bitCount_0f7a4_28 : decode cJ6_bitCount_0f7a4 28 = .ok (.iadd, 1) := by decide +kernel
theorem dJ6_bitCount_0f7a4_29 : decode cJ6_bitCount_0f7a4 29 = .ok (.ldc_w 267, 3) := by decide +kernel
theorem dJ6_bitCount_0f7a4_32 : decode cJ6_bitCount_0f7a4 32 = .ok (.iand, 1) := by decide +kernel
theorem dJ6_bitCount_0f7a4_33 : decode cJ6_bitCount_0f7a4 33 = .ok (.istore_n 0, 1) := by decide +kernel
theorem dJ6_bitCount_0f7a4_34 : decode cJ6_bitCount_0f7a4 34 = .ok (.iload_n 0, 1) := by decide +kernel
theorem dJ6_bitCount_0f7a4_35 : decode cJ6_bitCount_0f7a4 35 = .ok (.iload_n 0, 1) := by decide +kernel
theorem dJ6_bitCount_0f7a4_36 : decode cJ6_bitCount_0f7a4 36 = .ok (.bipush 8, 2) := by decide +kernel
theorem dJ6_bitCount_0f7a4_38 : decode cJ6_bitCount_0f7a4 38 = .ok (.iushr, 1) := by decide +kernel
theorem dJ6_bitCount_0f7a4_39 : decode cJ6_bitCount_0f7a4 39 = .ok (.iadd, 1) := by decide +kernel
theorem dJ6_bitCount_0f7a4_40 : decode cJ6_bitCount_0f7a4 40 = .ok (.istore_n 0, 1) := by decide +kernel
theorem dJ6_bitCount_0f7a4_41 : decode cJ6_bitCount_0f7a4 41 = .ok (.iload_n 0, 1) := by decide +kernel
theorem dJ6_bitCount_0f7a4_42 : decode cJ6_bitCount_0f7a4 42 = .ok (.iload_n 0, 1) := by decide +kernel
theorem dJ6_bitCount_0f7a4_43 : decode cJ6_bitCount_0f7a4 43 = .ok (.bipush 16, 2) := by decide +kernel
theorem dJ6_bitCount_0f7a4_45 : decode cJ6_bitCount_0f7a4 45 = .ok (.iushr, 1) := by decide +kernel
theorem dJ6_bitCount_0f7a4_46 : decode cJ6_bitCount_0f7a4 46 = .ok (.iadd, 1) := by decide +kernel
theorem dJ6_bitCount_0f7a4_47 : decode cJ6_bitCount_0f7a4 47 = .ok (.istore_n 0, 1) := by decide +kernel
theorem dJ6_bitCount_0f7a4_48 : decode cJ6_bitCount_0f7a4 48 = .ok (.iload_n 0, 1) := by decide +kernel
theorem dJ6_bitCount_0f7a4_49 : decode cJ6_bitCount_0f7a4 49 = .ok (.bipush 63, 2) := by decide +kernel
theorem dJ6_bitCount_0f7a4_51 : decode cJ6_bitCount_0f7a4 51 = .ok (.iand, 1) := by decide +kernel
theorem dJ6_bitCount_0f7a4_52 : decode cJ6_bitCount_0f7a4 52 = .ok (.ireturn, 1) := by decide +kernel
theorem dJ13_bitCount_95d88_0 : decode cJ13_bitCount_95d88 0 = .ok (.lload_n 0, 1) := by decide +kernel
theorem dJ13_bitCount_95d88_1 : decode cJ13_bitCount_95d88 1 = .ok (.lload_n 0, 1) := by decide +kernel
theorem dJ13_bitCount_95d88_2 : decode cJ13_bitCount_95d88 2 = .ok (.iconst 1, 1) := by decide +kernel
theorem dJ13_bitCount_95d88_3 : decode cJ13_bitCount_95d88 3 = .ok (.lushr, 1) := by decide +kernel
theorem dJ13_bitCount_95d88_4 : decode cJ13_bitCount_95d88 4 = .ok (.ldc2_w 314, 3) := by decide +kernel
theorem dJ13_bitCount_95d88_7 : decode cJ13_bitCount_95d88 7 = .ok (.land, 1) := by decide +kernel
theorem dJ13_bitCount_95d88_8 : decode cJ13_bitCount_95d88 8 = .ok (.lsub, 1) := by decide +kernel
theorem dJ13_bitCount_95d88_9 : decode cJ13_bitCount_95d88 9 = .ok (.lstore_n 0, 1) := by decide +kernel
theorem dJ13_bitCount_95d88_10 : decode cJ13_bitCount_95d88 10 = .ok (.lload_n 0, 1) := by decide +kernel
theorem dJ13_bitCount_95d88_11 : decode cJ13_bitCount_95d88 11 = .ok (.ldc2_w 316, 3) := by decide +kernel
theorem dJ13_bitCount_95d88_14 : decode cJ13_bitCount_95d88 14 = .ok (.land, 1) := by decide +kernel
theorem dJ13_bitCount_95d88_15 : decode cJ13_bitCount_95d88 15 = .ok (.lload_n 0, 1) := by decide +kernel
theorem dJ13_bitCount_95d88_16 : decode cJ13_bitCount_95d88 16 = .ok (.iconst 2, 1) := by decide +kernel
theorem dJ13_bitCount_95d88_17 : decode cJ13_bitCount_95d88 17 = .ok (.lushr, 1) := by decide +kernel
theorem dJ13_bitCount_95d88_18 : decode cJ13_bitCount_95d88 18 = .ok (.ldc2_w 316, 3) := by decide +kernel
theorem dJ13_bitCount_95d88_21 : decode cJ13_bitCount_95d88 21 = .ok (.land, 1) := by decide +kernel
theorem dJ13_bitCount_95d88_22 : decode cJ13_bitCount_95d88 22 = .ok (.ladd, 1) := by decide +kernel
theorem dJ13_bitCount_95d88_23 : decode cJ13_bitCount_95d88 23 = .ok (.lstore_n 0, 1) := by decide +kernel
theorem dJ13_bitCount_95d88_24 : decode cJ13_bitCount_95d88 24 = .ok (.lload_n 0, 1) := by decide +kernel
theorem dJ13_bitCount_95d88_25 : decode cJ13_bitCount_95d88 25 = .ok (.lload_n 0, 1) := by decide +kernel
theorem dJ13_bitCount_95d88_26 : decode cJ13_bitCount_95d88 26 = .ok (.iconst 4, 1) := by decide +kernel
theorem dJ13_bitCount_95d88_27 : decode cJ13_bitCount_95d88 27 = .ok (.lushr, 1) := by decide +kernel
theorem dJ13_bitCount_95d88_28 : decode cJ13_bitCount_95d88 28 = .ok (.ladd, 1) := by decide +kernel
theorem dJ13_bitCount_95d88_29 : decode cJ13_bitCount_95d88 29 = .ok (.ldc2_w 318, 3) := by decide +kernel
theorem dJ13_bitCount_95d88_32 : decode cJ13_bitCount_95d88 32 = .ok (.land, 1) := by decide +kernel
theorem dJ13_bitCount_95d88_33 : decode cJ13_bitCount_95d88 33 = .ok (.lstore_n 0, 1) := by decide +kernel
theorem dJ13_bitCount_95d88_34 : decode cJ13_bitCount_95d88 34 = .ok (.lload_n 0, 1) := by decide +kernel
theorem dJ13_bitCount_95d88_35 : decode cJ13_bitCount_95d88 35 = .ok (.lload_n 0, 1) := by decide +kernel
theorem dJ13_bitCount_95d88_36 : decode cJ13_bitCount_95d88 36 = .ok (.bipush 8, 2) := by decide +kernel
theorem dJ13_bitCount_95d88_38 : decode cJ13_bitCount_95d88 38 = .ok (.lushr, 1) := by decide +kernel
theorem dJ13_bitCount_95d88_39 : decode cJ13_bitCount_95d88 39 = .ok (.ladd, 1) := by decide +kernel
theorem dJ13_bitCount_95d88_40 : decode cJ13_bitCount_95d88 40 = .ok (.lstore_n 0, 1) := by decide +kernel
theorem dJ13_bitCount_95d88_41 : decode cJ13_bitCount_95d88 41 = .ok (.lload_n 0, 1) := by decide +kernel
theorem dJ13_bitCount_95d88_42 : decode cJ13_bitCount_95d88 42 = .ok (.lload_n 0, 1) := by decide +kernel
theorem dJ13_bitCount_95d88_43 : decode cJ13_bitCount_95d88 43 = .ok (.bipush 16, 2) := by decide +kernel
theorem dJ13_bitCount_95d88_45 : decode cJ13_bitCount_95d88 45 = .ok (.lushr, 1) := by decide +kernel
theorem dJ13_bitCount_95d88_46 : decode cJ13_bitCount_95d88 46 = .ok (.ladd, 1) := by decide +kernel
theorem dJ13_bitCount_95d88_47 : decode cJ13_bitCount_95d88 47 = .ok (.lstore_n 0, 1) := by decide +kernel
theorem dJ13_bitCount_95d88_48 : decode cJ13_bitCount_95d88 48 = .ok (.lload_n 0, 1) := by decide +kernel
theorem dJ13_bitCount_95d88_49 : decode cJ13_bitCount_95d88 49 = .ok (.lload_n 0, 1) := by decide +kernel
theorem dJ13_bitCount_95d88_50 : decode cJ13_bitCount_95d88 50 = .ok (.bipush 32, 2) := by decide +kernel
theorem dJ13_bitCount_95d88_52 : decode cJ13_bitCount_95d88 52 = .ok (.lushr, 1) := by decide +kernel
theorem dJ13_bitCount_95d88_53 : decode cJ13_bitCount_95d88 53 = .ok (.ladd, 1) := by decide +kernel
theorem dJ13_bitCount_95d88_54 : decode cJ13_bitCount_95d88 54 = .ok (.lstore_n 0, 1) := by decide +kernel
theorem dJ13_bitCount_95d88_55 : decode cJ13_bitCount_95d88 55 = .ok (.lload_n 0, 1) := by decide +kernel
theorem dJ13_bitCount_95d88_56 : decode cJ13_bitCount_95d88 56 = .ok (.l2i, 1) := by decide +kernel
theorem dJ13_bitCount_95d88_57 : decode cJ13_bitCount_95d88 57 = .ok (.bipush 127, 2) := by decide +kernel
theorem dJ13_bitCount_95d88_59 : decode cJ13_bitCount_95d88 59 = .ok (.iand, 1) := by decide +kernel
theorem dJ13_bitCount_95d88_60 : decode cJ13_bitCount_95d88 60 = .ok (.ireturn, 1) := by decide +kernel
theorem dJ9_max_7cf53_0 : decode cJ9_max_7cf53 0 = .ok (.iload_n 0, 1) := by decide +kernel
theorem dJ9_max_7cf53_1 : decode cJ9_max_7cf53 1 = .ok (.iload_n 1, 1) := by decide +kernel
theorem dJ9_max_7cf53_2 : decode cJ9_max_7cf53 2 = .ok (.if_icmp .lt 7, 3) := by decide +kernel
theorem dJ9_max_7cf53_5 : decode cJ9_max_7cf53 5 = .ok (.iload_n 0, 1) := by decide +kernel
theorem dJ9_max_7cf53_6 : decode cJ9_max_7cf53 6 = .ok (.goto 4, 3) := by decide +kernel
theorem dJ9_max_7cf53_9 : decode cJ9_max_7cf53 9 = .ok (.iload_n 1, 1) := by decide +kernel
theorem dJ9_max_7cf53_10 : decode cJ9_max_7cf53 10 = .ok (.ireturn, 1) := by decide +kernel
theorem dJ9_min_7cf53_0 : decode cJ9_min_7cf53 0 = .ok (.iload_n 0, 1) := by decide +kernel
theorem dJ9_min_7cf53_1 : decode cJ9_min_7cf53 1 = .ok (.iload_n 1, 1) := by decide +kernel
theorem dJ9_min_7cf53_2 : decode cJ9_min_7cf53 2 = .ok (.if_icmp .gt 7, 3) := by decide +kernel
theorem dJ9_min_7cf53_5 : decode cJ9_min_7cf53 5 = .ok (.iload_n 0, 1) := by decide +kernel
theorem dJ9_min_7cf53_6 : decode cJ9_min_7cf53 6 = .ok (.goto 4, 3) := by decide +kernel
theorem dJ9_min_7cf53_9 : decode cJ9_min_7cf53 9 = .ok (.iload_n 1, 1) := by decide +kernel
theorem dJ9_min_7cf53_10 : decode cJ9_min_7cf53 10 = .ok (.ireturn, 1) := by decide +kernel
theorem dJ0_length_8abf5_0 : decode cJ0_length_8abf5 0 = .ok (.aload_n 0, 1) := by decide +kernel
theorem dJ0_length_8abf5_1 : decode cJ0_length_8abf5 1 = .ok (.getfield 9, 3) := by decide +kernel
theorem dJ0_length_8abf5_4 : decode cJ0_length_8abf5 4 = .ok (.arraylength, 1) := by decide +kernel
theorem dJ0_length_8abf5_5 : decode cJ0_length_8abf5 5 = .ok (.aload_n 0, 1) := by decide +kernel
theorem dJ0_length_8abf5_6 : decode cJ0_length_8abf5 6 = .ok (.invokevirtual 335, 3) := by decide +kernel
theorem dJ0_length_8abf5_9 : decode cJ0_length_8abf5 9 = .ok (.ishr, 1) := by decide +kernel
theorem dJ0_length_8abf5_10 : decode cJ0_length_8abf5 10 = .ok (.ireturn, 1) := by decide +kernel
theorem dJ0_charAt_5068e_0 : decode cJ0_charAt_5068e 0 = .ok (.aload_n 0, 1) := by decide +kernel
theorem dJ0_charAt_5068e_1 : decode cJ0_charAt_5068e 1 = .ok (.invokevirtual 492, 3) := by decide +kernel
theorem dJ0_charAt_5068e_4 : decode cJ0_charAt_5068e 4 = .ok (.ifCond .eq 12, 3) := by decide +kernel
theorem dJ0_charAt_5068e_7 : decode cJ0_charAt_5068e 7 = .ok (.aload_n 0, 1) := by decide +kernel
theorem dJ0_charAt_5068e_8 : decode cJ0_charAt_5068e 8 = .ok (.getfield 9, 3) := by decide +kernel
theorem dJ0_charAt_5068e_11 : decode cJ0_charAt_5068e 11 = .ok (.iload_n 1, 1) := by decide +kernel
theorem dJ0_charAt_5068e_12 : decode cJ0_charAt_5068e 12 = .ok (.invokestatic 495, 3) := by decide +kernel
theorem dJ0_charAt_5068e_15 : decode cJ0_charAt_5068e 15 = .ok (.ireturn, 1) := by decide +kernel
theorem dJ0_charAt_5068e_16 : decode cJ0_charAt_5068e 16 = .ok (.aload_n 0, 1) := by decide +kernel
theorem dJ0_charAt_5068e_17 : decode cJ0_charAt_5068e 17 = .ok (.getfield 9, 3) := by decide +kernel
theorem dJ0_charAt_5068e_20 : decode cJ0_charAt_5068e 20 = .ok (.iload_n 1, 1) := by decide +kernel
theorem dJ0_charAt_5068e_21 : decode cJ0_charAt_5068e 21 = .ok (.invokestatic 498, 3) := by decide +kernel
theorem dJ0_charAt_5068e_24 : decode cJ0_charAt_5068e 24 = .ok (.ireturn, 1) := by decide +kernel
theorem dJ0_indexOf_0f7a4_0 : decode cJ0_indexOf_0f7a4 0 = .ok (.aload_n 0, 1) := by decide +kernel
theorem dJ0_indexOf_0f7a4_1 : decode cJ0_indexOf_0f7a4 1 = .ok (.iload_n 1, 1) := by decide +kernel
theorem dJ0_indexOf_0f7a4_2 : decode cJ0_indexOf_0f7a4 2 = .ok (.iconst 0, 1) := by decide +kernel
theorem dJ0_indexOf_0f7a4_3 : decode cJ0_indexOf_0f7a4 3 = .ok (.invokevirtual 633, 3) := by decide +kernel
theorem dJ0_indexOf_0f7a4_6 : decode cJ0_indexOf_0f7a4 6 = .ok (.ireturn, 1) := by decide +kernel
theorem dJ0_indexOf_7cf53_0 : decode cJ0_indexOf_7cf53 0 = .ok (.aload_n 0, 1) := by decide +kernel
theorem dJ0_indexOf_7cf53_1 : decode cJ0_indexOf_7cf53 1 = .ok (.invokevirtual 492, 3) := by decide +kernel
theorem dJ0_indexOf_7cf53_4 : decode cJ0_indexOf_7cf53 4 = .ok (.ifCond .eq 19, 3) := by decide +kernel
theorem dJ0_indexOf_7cf53_7 : decode cJ0_indexOf_7cf53 7 = .ok (.aload_n 0, 1) := by decide +kernel
theorem dJ0_indexOf_7cf53_8 : decode cJ0_indexOf_7cf53 8 = .ok (.getfield 9, 3) := by decide +kernel
theorem dJ0_indexOf_7cf53_11 : decode cJ0_indexOf_7cf53 11 = .ok (.iload_n 1, 1) := by decide +kernel
theorem dJ0_indexOf_7cf53_12 : decode cJ0_indexOf_7cf53 12 = .ok (.iload_n 2, 1) := by decide +kernel
theorem dJ0_indexOf_7cf53_13 : decode cJ0_indexOf_7cf53 13 = .ok (.aload_n 0, 1) := by decide +kernel
theorem dJ0_indexOf_7cf53_14 : decode cJ0_indexOf_7cf53 14 = .ok (.invokevirtual 505, 3) := by decide +kernel
theorem dJ0_indexOf_7cf53_17 : decode cJ0_indexOf_7cf53 17 = .ok (.invokestatic 637, 3) := by decide +kernel
theorem dJ0_indexOf_7cf53_20 : decode cJ0_indexOf_7cf53 20 = .ok (.goto 16, 3) := by decide +kernel
theorem dJ0_indexOf_7cf53_23 : decode cJ0_indexOf_7cf53 23 = .ok (.aload_n 0, 1) := by decide +kernel
theorem dJ0_indexOf_7cf53_24 : decode cJ0_indexOf_7cf53 24 = .ok (.getfield 9, 3) := by decide +kernel
theorem dJ0_indexOf_7cf53_27 : decode cJ0_indexOf_7cf53 27 = .ok (.iload_n 1, 1) := by decide +kernel
theorem dJ0_indexOf_7cf53_28 : decode cJ0_indexOf_7cf53 28 = .ok (.iload_n 2, 1) := by decide +kernel
theorem dJ0_indexOf_7cf53_29 : decode cJ0_indexOf_7cf53 29 = .ok (.aload_n 0, 1) := by decide +kernel
theorem dJ0_indexOf_7cf53_30 : decode cJ0_indexOf_7cf53 30 = .ok (.invokevirtual 505, 3) := by decide +kernel
theorem dJ0_indexOf_7cf53_33 : decode cJ0_indexOf_7cf53 33 = .ok (.invokestatic 640, 3) := by decide +kernel
theorem dJ0_indexOf_7cf53_36 : decode cJ0_indexOf_7cf53 36 = .ok (.ireturn, 1) := by decide +kernel
theorem dJ0_coder_7d493_0 : decode cJ0_coder_7d493 0 = .ok (.getstatic 38, 3) := by decide +kernel
theorem dJ0_coder_7d493_3 : decode cJ0_coder_7d493 3 = .ok (.ifCond .eq 10, 3) := by decide +kernel
theorem dJ0_coder_7d493_6 : decode cJ0_coder_7d493 6 = .ok (.aload_n 0, 1) := by decide +kernel
theorem dJ0_coder_7d493_7 : decode cJ0_coder_7d493 7 = .ok (.getfield 15, 3) := by decide +kernel
theorem dJ0_coder_7d493_10 : decode cJ0_coder_7d493 10 = .ok (.goto 4, 3) := by decide +kernel
theorem dJ0_coder_7d493_13 : decode cJ0_coder_7d493 13 = .ok (.iconst 1, 1) := by decide +kernel
theorem dJ0_coder_7d493_14 : decode cJ0_coder_7d493 14 = .ok (.ireturn, 1) := by decide +kernel
theorem dJ0_isLatin1_aae02_0 : decode cJ0_isLatin1_aae02 0 = .ok (.getstatic 38, 3) := by decide +kernel
theorem dJ0_isLatin1_aae02_3 : decode cJ0_isLatin1_aae02 3 = .ok (.ifCond .eq 14, 3) := by decide +kernel
theorem dJ0_isLatin1_aae02_6 : decode cJ0_isLatin1_aae02 6 = .ok (.aload_n 0, 1) := by decide +kernel
theorem dJ0_isLatin1_aae02_7 : decode cJ0_isLatin1_aae02 7 = .ok (.getfield 15, 3) := by decide +kernel
theorem dJ0_isLatin1_aae02_10 : decode cJ0_isLatin1_aae02 10 = .ok (.ifCond .ne 7, 3) := by decide +kernel
theorem dJ0_isLatin1_aae02_13 : decode cJ0_isLatin1_aae02 13 = .ok (.iconst 1, 1) := by decide +kernel
theorem dJ0_isLatin1_aae02_14 : decode cJ0_isLatin1_aae02 14 = .ok (.goto 4, 3) := by decide +kernel
theorem dJ0_isLatin1_aae02_17 : decode cJ0_isLatin1_aae02 17 = .ok (.iconst 0, 1) := by decide +kernel
theorem dJ0_isLatin1_aae02_18 : decode cJ0_isLatin1_aae02 18 = .ok (.ireturn, 1) := by decide +kernel
theorem dJ0_checkIndex_df160_0 : decode cJ0_checkIndex_df160 0 = .ok (.iload_n 0, 1) := by decide +kernel
theorem dJ0_checkIndex_df160_1 : decode cJ0_checkIndex_df160 1 = .ok (.iload_n 1, 1) := by decide +kernel
theorem dJ0_checkIndex_df160_2 : decode cJ0_checkIndex_df160 2 = .ok (.getstatic 1053, 3) := by decide +kernel
theorem dJ0_checkIndex_df160_5 : decode cJ0_checkIndex_df160 5 = .ok (.invokestatic 1059, 3) := by decide +kernel
theorem dJ0_checkIndex_df160_8 : decode cJ0_checkIndex_df160 8 = .ok (.pop, 1) := by decide +kernel
theorem dJ0_checkIndex_df160_9 : decode cJ0_checkIndex_df160 9 = .ok (.return_, 1) := by decide +kernel
theorem dJ0_checkBoundsBeginEnd_23922_0 : decode cJ0_checkBoundsBeginEnd_23922 0 = .ok (.iload_n 0, 1) := by decide +kernel
theorem dJ0_checkBoundsBeginEnd_23922_1 : decode cJ0_checkBoundsBeginEnd_23922 1 = .ok (.iload_n 1, 1) := by decide +kernel
theorem dJ0_checkBoundsBeginEnd_23922_2 : decode cJ0_checkBoundsBeginEnd_23922 2 = .ok (.iload_n 2, 1) := by decide +kernel
theorem dJ0_checkBoundsBeginEnd_23922_3 : decode cJ0_checkBoundsBeginEnd_23922 3 = .ok (.getstatic 1053, 3) := by decide +kernel
theorem dJ0_checkBoundsBeginEnd_23922_6 : decode cJ0_checkBoundsBeginEnd_23922 6 = .ok (.invokestatic 1062, 3) := by decide +kernel
theorem dJ0_checkBoundsBeginEnd_23922_9 : decode cJ0_checkBoundsBeginEnd_23922 9 = .ok (.pop, 1) := by decide +kernel
theorem dJ0_checkBoundsBeginEnd_23922_10 : decode cJ0_checkBoundsBeginEnd_23922 10 = .ok (.return_, 1) := by decide +kernel
theorem dJ1_charAt_3b067_0 : decode cJ1_charAt_3b067 0 = .ok (.iload_n 1, 1) := by decide +kernel
theorem dJ1_charAt_3b067_1 : decode cJ1_charAt_3b067 1 = .ok (.aload_n 0, 1) := by decide +kernel
theorem dJ1_charAt_3b067_2 : decode cJ1_charAt_3b067 2 = .ok (.arraylength, 1) := by decide +kernel
theorem dJ1_charAt_3b067_3 : decode cJ1_charAt_3b067 3 = .ok (.invokestatic 9, 3) := by decide +kernel
theorem dJ1_charAt_3b067_6 : decode cJ1_charAt_3b067 6 = .ok (.aload_n 0, 1) := by decide +kernel
theorem dJ1_charAt_3b067_7 : decode cJ1_charAt_3b067 7 = .ok (.iload_n 1, 1) := by decide +kernel
theorem dJ1_charAt_3b067_8 : decode cJ1_charAt_3b067 8 = .ok (.baload, 1) := by decide +kernel
theorem dJ1_charAt_3b067_9 : decode cJ1_charAt_3b067 9 = .ok (.sipush 255, 3) := by decide +kernel
theorem dJ1_charAt_3b067_12 : decode cJ1_charAt_3b067 12 = .ok (.iand, 1) := by decide +kernel
theorem dJ1_charAt_3b067_13 : decode cJ1_charAt_3b067 13 = .ok (.i2c, 1) := by decide +kernel
theorem dJ1_charAt_3b067_14 : decode cJ1_charAt_3b067 14 = .ok (.ireturn, 1) := by decide +kernel
theorem dJ1_canEncode_9a6ad_0 : decode cJ1_canEncode_9a6ad 0 = .ok (.iload_n 0, 1) := by decide +kernel
theorem dJ1_canEncode_9a6ad_1 : decode cJ1_canEncode_9a6ad 1 = .ok (.ifCond .lt 14, 3) := by decide +kernel
theorem dJ1_canEncode_9a6ad_4 : decode cJ1_canEncode_9a6ad 4 = .ok (.iload_n 0, 1) := by decide +kernel
theorem dJ1_canEncode_9a6ad_5 : decode cJ1_canEncode_9a6ad 5 = .ok (.sipush 255, 3) := by decide +kernel
theorem dJ1_canEncode_9a6ad_8 : decode cJ1_canEncode_9a6ad 8 = .ok (.if_icmp .gt 7, 3) := by decide +kernel
theorem dJ1_canEncode_9a6ad_11 : decode cJ1_canEncode_9a6ad 11 = .ok (.iconst 1, 1) := by decide +kernel
theorem dJ1_canEncode_9a6ad_12 : decode cJ1_canEncode_9a6ad 12 = .ok (.goto 4, 3) := by decide +kernel
theorem dJ1_canEncode_9a6ad_15 : decode cJ1_canEncode_9a6ad 15 = .ok (.iconst 0, 1) := by decide +kernel
theorem dJ1_canEncode_9a6ad_16 : decode cJ1_canEncode_9a6ad 16 = .ok (.ireturn, 1) := by decide +kernel
theorem dJ1_indexOf_4cfef_0 : decode cJ1_indexOf_4cfef 0 = .ok (.iload_n 1, 1) := by decide +kernel
theorem dJ1_indexOf_4cfef_1 : decode cJ1_indexOf_4cfef 1 = .ok (.invokestatic 88, 3) := by decide +kernel
theorem dJ1_indexOf_4cfef_4 : decode cJ1_indexOf_4cfef 4 = .ok (.ifCond .ne 5, 3) := by decide +kernel
theorem dJ1_indexOf_4cfef_7 : decode cJ1_indexOf_4cfef 7 = .ok (.iconst (-1), 1) := by decide +kernel
theorem dJ1_indexOf_4cfef_8 : decode cJ1_indexOf_4cfef 8 = .ok (.ireturn, 1) := by decide +kernel
theorem dJ1_indexOf_4cfef_9 : decode cJ1_indexOf_4cfef 9 = .ok (.iload_n 2, 1) := by decide +kernel
theorem dJ1_indexOf_4cfef_10 : decode cJ1_indexOf_4cfef 10 = .ok (.iconst 0, 1) := by decide +kernel
theorem dJ1_indexOf_4cfef_11 : decode cJ1_indexOf_4cfef 11 = .ok (.invokestatic 92, 3) := by decide +kernel
theorem dJ1_indexOf_4cfef_14 : decode cJ1_indexOf_4cfef 14 = .ok (.istore_n 2, 1) := by decide +kernel
theorem dJ1_indexOf_4cfef_15 : decode cJ1_indexOf_4cfef 15 = .ok (.iload_n 3, 1) := by decide +kernel
theorem dJ1_indexOf_4cfef_16 : decode cJ1_indexOf_4cfef 16 = .ok (.aload_n 0, 1) := by decide +kernel
theorem dJ1_indexOf_4cfef_17 : decode cJ1_indexOf_4cfef 17 = .ok (.arraylength, 1) := by decide +kernel
theorem dJ1_indexOf_4cfef_18 : decode cJ1_indexOf_4cfef 18 = .ok (.invokestatic 38, 3) := by decide +kernel
theorem dJ1_indexOf_4cfef_21 : decode cJ1_indexOf_4cfef 21 = .ok (.istore_n 3, 1) := by decide +kernel
theorem dJ1_indexOf_4cfef_22 : decode cJ1_indexOf_4cfef 22 = .ok (.iload_n 2, 1) := by decide +kernel
theorem dJ1_indexOf_4cfef_23 : decode cJ1_indexOf_4cfef 23 = .ok (.iload_n 3, 1) := by decide +kernel
theorem dJ1_indexOf_4cfef_24 : decode cJ1_indexOf_4cfef 24 = .ok (.if_icmp .lt 5, 3) := by decide +kernel
theorem dJ1_indexOf_4cfef_27 : decode cJ1_indexOf_4cfef 27 = .ok (.iconst (-1), 1) := by decide +kernel
theorem dJ1_indexOf_4cfef_28 : decode cJ1_indexOf_4cfef 28 = .ok (.ireturn, 1) := by decide +kernel
theorem dJ1_indexOf_4cfef_29 : decode cJ1_indexOf_4cfef 29 = .ok (.aload_n 0, 1) := by decide +kernel
theorem dJ1_indexOf_4cfef_30 : decode cJ1_indexOf_4cfef 30 = .ok (.iload_n 1, 1) := by decide +kernel
theorem dJ1_indexOf_4cfef_31 : decode cJ1_indexOf_4cfef 31 = .ok (.iload_n 2, 1) := by decide +kernel
theorem dJ1_indexOf_4cfef_32 : decode cJ1_indexOf_4cfef 32 = .ok (.iload_n 3, 1) := by decide +kernel
theorem dJ1_indexOf_4cfef_33 : decode cJ1_indexOf_4cfef 33 = .ok (.invokestatic 95, 3) := by decide +kernel
theorem dJ1_indexOf_4cfef_36 : decode cJ1_indexOf_4cfef 36 = .ok (.ireturn, 1) := by decide +kernel
theorem dJ1_indexOfChar_4cfef_0 : decode cJ1_indexOfChar_4cfef 0 = .ok (.iload_n 1, 1) := by decide +kernel
theorem dJ1_indexOfChar_4cfef_1 : decode cJ1_indexOfChar_4cfef 1 = .ok (.i2b, 1) := by decide +kernel
theorem dJ1_indexOfChar_4cfef_2 : decode cJ1_indexOfChar_4cfef 2 = .ok (.istore 4, 2) := by decide +kernel
theorem dJ1_indexOfChar_4cfef_4 : decode cJ1_indexOfChar_4cfef 4 = .ok (.iload_n 2, 1) := by decide +kernel
theorem dJ1_indexOfChar_4cfef_5 : decode cJ1_indexOfChar_4cfef 5 = .ok (.istore 5, 2) := by decide +kernel
theorem dJ1_indexOfChar_4cfef_7 : decode cJ1_indexOfChar_4cfef 7 = .ok (.iload 5, 2) := by decide +kernel
theorem dJ1_indexOfChar_4cfef_9 : decode cJ1_indexOfChar_4cfef 9 = .ok (.iload_n 3, 1) := by decide +kernel
theorem dJ1_indexOfChar_4cfef_10 : decode cJ1_indexOfChar_4cfef 10 = .ok (.if_icmp .ge 21, 3) := by decide +kernel
theorem dJ1_indexOfChar_4cfef_13 : decode cJ1_indexOfChar_4cfef 13 = .ok (.aload_n 0, 1) := by decide +kernel
theorem dJ1_indexOfChar_4cfef_14 : decode cJ1_indexOfChar_4cfef 14 = .ok (.iload 5, 2) := by decide +kernel
theorem dJ1_indexOfChar_4cfef_16 : decode cJ1_indexOfChar_4cfef 16 = .ok (.baload, 1) := by decide +kernel
theorem dJ1_indexOfChar_4cfef_17 : decode cJ1_indexOfChar_4cfef 17 = .ok (.iload 4, 2) := by decide +kernel
theorem dJ1_indexOfChar_4cfef_19 : decode cJ1_indexOfChar_4cfef 19 = .ok (.if_icmp .ne 6, 3) := by decide +kernel
theorem dJ1_indexOfChar_4cfef_22 : decode cJ1_indexOfChar_4cfef 22 = .ok (.iload 5, 2) := by decide +kernel
theorem dJ1_indexOfChar_4cfef_24 : decode cJ1_indexOfChar_4cfef 24 = .ok (.ireturn, 1) := by decide +kernel
theorem dJ1_indexOfChar_4cfef_25 : decode cJ1_indexOfChar_4cfef 25 = .ok (.iinc 5 1, 3) := by decide +kernel
theorem dJ1_indexOfChar_4cfef_28 : decode cJ1_indexOfChar_4cfef 28 = .ok (.goto (-21), 3) := by decide +kernel
theorem dJ1_indexOfChar_4cfef_31 : decode cJ1_indexOfChar_4cfef 31 = .ok (.iconst (-1), 1) := by decide +kernel
theorem dJ1_indexOfChar_4cfef_32 : decode cJ1_indexOfChar_4cfef 32 = .ok (.ireturn, 1) := by decide +kernel
theorem dJ2_getChar_3b067_0 : decode cJ2_getChar_3b067 0 = .ok (.getstatic 44, 3) := by decide +kernel
theorem dJ2_getChar_3b067_3 : decode cJ2_getChar_3b067 3 = .ok (.ifCond .ne 25, 3) := by decide +kernel
theorem dJ2_getChar_3b067_6 : decode cJ2_getChar_3b067 6 = .ok (.iload_n 1, 1) := by decide +kernel
theorem dJ2_getChar_3b067_7 : decode cJ2_getChar_3b067 7 = .ok (.ifCond .lt 11, 3) := by decide +kernel
theorem dJ2_getChar_3b067_10 : decode cJ2_getChar_3b067 10 = .ok (.iload_n 1, 1) := by decide +kernel
theorem dJ2_getChar_3b067_11 : decode cJ2_getChar_3b067 11 = .ok (.aload_n 0, 1) := by decide +kernel
theorem dJ2_getChar_3b067_12 : decode cJ2_getChar_3b067 12 = .ok (.invokestatic 48, 3) := by decide +kernel
theorem dJ2_getChar_3b067_15 : decode cJ2_getChar_3b067 15 = .ok (.if_icmp .lt 13, 3) := by decide +kernel
theorem dJ2_getChar_3b067_18 : decode cJ2_getChar_3b067 18 = .ok (.new 52, 3) := by decide +kernel
theorem dJ2_getChar_3b067_21 : decode cJ2_getChar_3b067 21 = .ok (.dup, 1) := by decide +kernel
theorem dJ2_getChar_3b067_22 : decode cJ2_getChar_3b067 22 = .ok (.ldc 54, 2) := by decide +kernel
theorem dJ2_getChar_3b067_24 : decode cJ2_getChar_3b067 24 = .ok (.invokespecial 56, 3) := by decide +kernel
theorem dJ2_getChar_3b067_27 : decode cJ2_getChar_3b067 27 = .ok (.athrow, 1) := by decide +kernel
theorem dJ2_getChar_3b067_28 : decode cJ2_getChar_3b067 28 = .ok (.iload_n 1, 1) := by decide +kernel
theorem dJ2_getChar_3b067_29 : decode cJ2_getChar_3b067 29 = .ok (.iconst 1, 1) := by decide +kernel
theorem dJ2_getChar_3b067_30 : decode cJ2_getChar_3b067 30 = .ok (.ishl, 1) := by decide +kernel
theorem dJ2_getChar_3b067_31 : decode cJ2_getChar_3b067 31 = .ok (.istore_n 1, 1) := by decide +kernel
theorem dJ2_getChar_3b067_32 : decode cJ2_getChar_3b067 32 = .ok (.aload_n 0, 1) := by decide +kernel
theorem dJ2_getChar_3b067_33 : decode cJ2_getChar_3b067 33 = .ok (.iload_n 1, 1) := by decide +kernel
theorem dJ2_getChar_3b067_34 : decode cJ2_getChar_3b067 34 = .ok (.iinc 1 1, 3) := by decide +kernel
theorem dJ2_getChar_3b067_37 : decode cJ2_getChar_3b067 37 = .ok (.baload, 1) := by decide +kernel
theorem dJ2_getChar_3b067_38 : decode cJ2_getChar_3b067 38 = .ok (.sipush 255, 3) := by decide +kernel
theorem dJ2_getChar_3b067_41 : decode cJ2_getChar_3b067 41 = .ok (.iand, 1) := by decide +kernel
theorem dJ2_getChar_3b067_42 : decode cJ2_getChar_3b067 42 = .ok (.getstatic 59, 3) := by decide +kernel
theorem dJ2_getChar_3b067_45 : decode cJ2_getChar_3b067 45 = .ok (.ishl, 1) := by decide +kernel
theorem dJ2_getChar_3b067_46 : decode cJ2_getChar_3b067 46 = .ok (.aload_n 0, 1) := by decide +kernel
theorem dJ2_getChar_3b067_47 : decode cJ2_getChar_3b067 47 = .ok (.iload_n 1, 1) := by decide +kernel
theorem dJ2_getChar_3b067_48 : decode cJ2_getChar_3b067 48 = .ok (.baload, 1) := by decide +kernel
theorem dJ2_getChar_3b067_49 : decode cJ2_getChar_3b067 49 = .ok (.sipush 255, 3) := by decide +kernel
theorem dJ2_getChar_3b067_52 : decode cJ2_getChar_3b067 52 = .ok (.iand, 1) := by decide +kernel
theorem dJ2_getChar_3b067_53 : decode cJ2_getChar_3b067 53 = .ok (.getstatic 63, 3) := by decide +kernel
theorem dJ2_getChar_3b067_56 : decode cJ2_getChar_3b067 56 = .ok (.ishl, 1) := by decide +kernel
theorem dJ2_getChar_3b067_57 : decode cJ2_getChar_3b067 57 = .ok (.ior, 1) := by decide +kernel
theorem dJ2_getChar_3b067_58 : decode cJ2_getChar_3b067 58 = .ok (.i2c, 1) := by decide +kernel
theorem dJ2_getChar_3b067_59 : decode cJ2_getChar_3b067 59 = .ok (.ireturn, 1) := by decide +kernel
theorem dJ2_length_9d52b_0 : decode cJ2_length_9d52b 0 = .ok (.aload_n 0, 1) := by decide +kernel
theorem dJ2_length_9d52b_1 : decode cJ2_length_9d52b 1 = .ok (.arraylength, 1) := by decide +kernel
theorem dJ2_length_9d52b_2 : decode cJ2_length_9d52b 2 = .ok (.iconst 1, 1) := by decide +kernel
theorem dJ2_length_9d52b_3 : decode cJ2_length_9d52b 3 = .ok (.ishr, 1) := by decide +kernel
theorem dJ2_length_9d52b_4 : decode cJ2_length_9d52b 4 = .ok (.ireturn, 1) := by decide +kernel
theorem dJ2_indexOf_4cfef_0 : decode cJ2_indexOf_4cfef 0 = .ok (.iload_n 2, 1) := by decide +kernel
theorem dJ2_indexOf_4cfef_1 : decode cJ2_indexOf_4cfef 1 = .ok (.iconst 0, 1) := by decide +kernel
theorem dJ2_indexOf_4cfef_2 : decode cJ2_indexOf_4cfef 2 = .ok (.invokestatic 224, 3) := by decide +kernel
theorem dJ2_indexOf_4cfef_5 : decode cJ2_indexOf_4cfef 5 = .ok (.istore_n 2, 1) := by decide +kernel
theorem dJ2_indexOf_4cfef_6 : decode cJ2_indexOf_4cfef 6 = .ok (.iload_n 3, 1) := by decide +kernel
theorem dJ2_indexOf_4cfef_7 : decode cJ2_indexOf_4cfef 7 = .ok (.aload_n 0, 1) := by decide +kernel
theorem dJ2_indexOf_4cfef_8 : decode cJ2_indexOf_4cfef 8 = .ok (.arraylength, 1) := by decide +kernel
theorem dJ2_indexOf_4cfef_9 : decode cJ2_indexOf_4cfef 9 = .ok (.iconst 1, 1) := by decide +kernel
theorem dJ2_indexOf_4cfef_10 : decode cJ2_indexOf_4cfef 10 = .ok (.ishr, 1) := by decide +kernel
theorem dJ2_indexOf_4cfef_11 : decode cJ2_indexOf_4cfef 11 = .ok (.invokestatic 183, 3) := by decide +kernel
theorem dJ2_indexOf_4cfef_14 : decode cJ2_indexOf_4cfef 14 = .ok (.istore_n 3, 1) := by decide +kernel
theorem dJ2_indexOf_4cfef_15 : decode cJ2_indexOf_4cfef 15 = .ok (.iload_n 2, 1) := by decide +kernel
theorem dJ2_indexOf_4cfef_16 : decode cJ2_indexOf_4cfef 16 = .ok (.iload_n 3, 1) := by decide +kernel
theorem dJ2_indexOf_4cfef_17 : decode cJ2_indexOf_4cfef 17 = .ok (.if_icmp .lt 5, 3) := by decide +kernel
theorem dJ2_indexOf_4cfef_20 : decode cJ2_indexOf_4cfef 20 = .ok (.iconst (-1), 1) := by decide +kernel
theorem dJ2_indexOf_4cfef_21 : decode cJ2_indexOf_4cfef 21 = .ok (.ireturn, 1) := by decide +kernel
theorem dJ2_indexOf_4cfef_22 : decode cJ2_indexOf_4cfef 22 = .ok (.iload_n 1, 1) := by decide +kernel
theorem dJ2_indexOf_4cfef_23 : decode cJ2_indexOf_4cfef 23 = .ok (.ldc 227, 2) := by decide +kernel
theorem dJ2_indexOf_4cfef_25 : decode cJ2_indexOf_4cfef 25 = .ok (.if_icmp .ge 11, 3) := by decide +kernel
theorem dJ2_indexOf_4cfef_28 : decode cJ2_indexOf_4cfef 28 = .ok (.aload_n 0, 1) := by decide +kernel
theorem dJ2_indexOf_4cfef_29 : decode cJ2_indexOf_4cfef 29 = .ok (.iload_n 1, 1) := by decide +kernel
theorem dJ2_indexOf_4cfef_30 : decode cJ2_indexOf_4cfef 30 = .ok (.iload_n 2, 1) := by decide +kernel
theorem dJ2_indexOf_4cfef_31 : decode cJ2_indexOf_4cfef 31 = .ok (.iload_n 3, 1) := by decide +kernel
theorem dJ2_indexOf_4cfef_32 : decode cJ2_indexOf_4cfef 32 = .ok (.invokestatic 228, 3) := by decide +kernel
theorem dJ2_indexOf_4cfef_35 : decode cJ2_indexOf_4cfef 35 = .ok (.ireturn, 1) := by decide +kernel
theorem dJ2_indexOf_4cfef_36 : decode cJ2_indexOf_4cfef 36 = .ok (.aload_n 0, 1) := by decide +kernel
theorem dJ2_indexOf_4cfef_37 : decode cJ2_indexOf_4cfef 37 = .ok (.iload_n 1, 1) := by decide +kernel
theorem dJ2_indexOf_4cfef_38 : decode cJ2_indexOf_4cfef 38 = .ok (.iload_n 2, 1) := by decide +kernel
theorem dJ2_indexOf_4cfef_39 : decode cJ2_indexOf_4cfef 39 = .ok (.iload_n 3, 1) := by decide +kernel
theorem dJ2_indexOf_4cfef_40 : decode cJ2_indexOf_4cfef 40 = .ok (.invokestatic 232, 3) := by decide +kernel
theorem dJ2_indexOf_4cfef_43 : decode cJ2_indexOf_4cfef 43 = .ok (.ireturn, 1) := by decide +kernel
theorem dJ2_indexOfChar_4cfef_0 : decode cJ2_indexOfChar_4cfef 0 = .ok (.iload_n 2, 1) := by decide +kernel
theorem dJ2_indexOfChar_4cfef_1 : decode cJ2_indexOfChar_4cfef 1 = .ok (.iload_n 3, 1) := by decide +kernel
theorem dJ2_indexOfChar_4cfef_2 : decode cJ2_indexOfChar_4cfef 2 = .ok (.aload_n 0, 1) := by decide +kernel
theorem dJ2_indexOfChar_4cfef_3 : decode cJ2_indexOfChar_4cfef 3 = .ok (.invokestatic 96, 3) := by decide +kernel
theorem dJ2_indexOfChar_4cfef_6 : decode cJ2_indexOfChar_4cfef 6 = .ok (.aload_n 0, 1) := by decide +kernel
theorem dJ2_indexOfChar_4cfef_7 : decode cJ2_indexOfChar_4cfef 7 = .ok (.iload_n 1, 1) := by decide +kernel
theorem dJ2_indexOfChar_4cfef_8 : decode cJ2_indexOfChar_4cfef 8 = .ok (.iload_n 2, 1) := by decide +kernel
theorem dJ2_indexOfChar_4cfef_9 : decode cJ2_indexOfChar_4cfef 9 = .ok (.iload_n 3, 1) := by decide +kernel
theorem dJ2_indexOfChar_4cfef_10 : decode cJ2_indexOfChar_4cfef 10 = .ok (.invokestatic 244, 3) := by decide +kernel
theorem dJ2_indexOfChar_4cfef_13 : decode cJ2_indexOfChar_4cfef 13 = .ok (.ireturn, 1) := by decide +kernel
theorem dJ2_indexOfCharUnsafe_4cfef_0 : decode cJ2_indexOfCharUnsafe_4cfef 0 = .ok (.iload_n 2, 1) := by decide +kernel
theorem dJ2_indexOfCharUnsafe_4cfef_1 : decode cJ2_indexOfCharUnsafe_4cfef 1 = .ok (.istore 4, 2) := by decide +kernel
theorem dJ2_indexOfCharUnsafe_4cfef_3 : decode cJ2_indexOfCharUnsafe_4cfef 3 = .ok (.iload 4, 2) := by decide +kernel
theorem dJ2_indexOfCharUnsafe_4cfef_5 : decode cJ2_indexOfCharUnsafe_4cfef 5 = .ok (.iload_n 3, 1) := by decide +kernel
theorem dJ2_indexOfCharUnsafe_4cfef_6 : decode cJ2_indexOfCharUnsafe_4cfef 6 = .ok (.if_icmp .ge 22, 3) := by decide +kernel
theorem dJ2_indexOfCharUnsafe_4cfef_9 : decode cJ2_indexOfCharUnsafe_4cfef 9 = .ok (.aload_n 0, 1) := by decide +kernel
theorem dJ2_indexOfCharUnsafe_4cfef_10 : decode cJ2_indexOfCharUnsafe_4cfef 10 = .ok (.iload 4, 2) := by decide +kernel
theorem dJ2_indexOfCharUnsafe_4cfef_12 : decode cJ2_indexOfCharUnsafe_4cfef 12 = .ok (.invokestatic 71, 3) := by decide +kernel
theorem dJ2_indexOfCharUnsafe_4cfef_15 : decode cJ2_indexOfCharUnsafe_4cfef 15 = .ok (.iload_n 1, 1) := by decide +kernel
theorem dJ2_indexOfCharUnsafe_4cfef_16 : decode cJ2_indexOfCharUnsafe_4cfef 16 = .ok (.if_icmp .ne 6, 3) := by decide +kernel
theorem dJ2_indexOfCharUnsafe_4cfef_19 : decode cJ2_indexOfCharUnsafe_4cfef 19 = .ok (.iload 4, 2) := by decide +kernel
theorem dJ2_indexOfCharUnsafe_4cfef_21 : decode cJ2_indexOfCharUnsafe_4cfef 21 = .ok (.ireturn, 1) := by decide +kernel
theorem dJ2_indexOfCharUnsafe_4cfef_22 : decode cJ2_indexOfCharUnsafe_4cfef 22 = .ok (.iinc 4 1, 3) := by decide +kernel
theorem dJ2_indexOfCharUnsafe_4cfef_25 : decode cJ2_indexOfCharUnsafe_4cfef 25 = .ok (.goto (-22), 3) := by decide +kernel
theorem dJ2_indexOfCharUnsafe_4cfef_28 : decode cJ2_indexOfCharUnsafe_4cfef 28 = .ok (.iconst (-1), 1) := by decide +kernel
theorem dJ2_indexOfCharUnsafe_4cfef_29 : decode cJ2_indexOfCharUnsafe_4cfef 29 = .ok (.ireturn, 1) := by decide +kernel
theorem dJ2_indexOfSupplementary_4cfef_0 : decode cJ2_indexOfSupplementary_4cfef 0 = .ok (.iload_n 1, 1) := by decide +kernel
theorem dJ2_indexOfSupplementary_4cfef_1 : decode cJ2_indexOfSupplementary_4cfef 1 = .ok (.invokestatic 164, 3) := by decide +kernel
theorem dJ2_indexOfSupplementary_4cfef_4 : decode cJ2_indexOfSupplementary_4cfef 4 = .ok (.ifCond .eq 65, 3) := by decide +kernel
theorem dJ2_indexOfSupplementary_4cfef_7 : decode cJ2_indexOfSupplementary_4cfef 7 = .ok (.iload_n 1, 1) := by decide +kernel
theorem dJ2_indexOfSupplementary_4cfef_8 : decode cJ2_indexOfSupplementary_4cfef 8 = .ok (.invokestatic 157, 3) := by decide +kernel
theorem dJ2_indexOfSupplementary_4cfef_11 : decode cJ2_indexOfSupplementary_4cfef 11 = .ok (.istore 4, 2) := by decide +kernel
theorem dJ2_indexOfSupplementary_4cfef_13 : decode cJ2_indexOfSupplementary_4cfef 13 = .ok (.iload_n 1, 1) := by decide +kernel
theorem dJ2_indexOfSupplementary_4cfef_14 : decode cJ2_indexOfSupplementary_4cfef 14 = .ok (.invokestatic 161, 3) := by decide +kernel
theorem dJ2_indexOfSupplementary_4cfef_17 : decode cJ2_indexOfSupplementary_4cfef 17 = .ok (.istore 5, 2) := by decide +kernel
theorem dJ2_indexOfSupplementary_4cfef_19 : decode cJ2_indexOfSupplementary_4cfef 19 = .ok (.iload_n 2, 1) := by decide +kernel
theorem dJ2_indexOfSupplementary_4cfef_20 : decode cJ2_indexOfSupplementary_4cfef 20 = .ok (.iload_n 3, 1) := by decide +kernel
theorem dJ2_indexOfSupplementary_4cfef_21 : decode cJ2_indexOfSupplementary_4cfef 21 = .ok (.aload_n 0, 1) := by decide +kernel
theorem dJ2_indexOfSupplementary_4cfef_22 : decode cJ2_indexOfSupplementary_4cfef 22 = .ok (.invokestatic 96, 3) := by decide +kernel
theorem dJ2_indexOfSupplementary_4cfef_25 : decode cJ2_indexOfSupplementary_4cfef 25 = .ok (.iload_n 2, 1) := by decide +kernel
theorem dJ2_indexOfSupplementary_4cfef_26 : decode cJ2_indexOfSupplementary_4cfef 26 = .ok (.istore 6, 2) := by decide +kernel
theorem dJ2_indexOfSupplementary_4cfef_28 : decode cJ2_indexOfSupplementary_4cfef 28 = .ok (.iload 6, 2) := by decide +kernel
theorem dJ2_indexOfSupplementary_4cfef_30 : decode cJ2_indexOfSupplementary_4cfef 30 = .ok (.iload_n 3, 1) := by decide +kernel
theorem dJ2_indexOfSupplementary_4cfef_31 : decode cJ2_indexOfSupplementary_4cfef 31 = .ok (.iconst 1, 1) := by decide +kernel
theorem dJ2_indexOfSupplementary_4cfef_32 : decode cJ2_indexOfSupplementary_4cfef 32 = .ok (.isub, 1) := by decide +kernel
theorem dJ2_indexOfSupplementary_4cfef_33 : decode cJ2_indexOfSupplementary_4cfef 33 = .ok (.if_icmp .ge 36, 3) := by decide +kernel
theorem dJ2_indexOfSupplementary_4cfef_36 : decode cJ2_indexOfSupplementary_4cfef 36 = .ok (.aload_n 0, 1) := by decide +kernel
theorem dJ2_indexOfSupplementary_4cfef_37 : decode cJ2_indexOfSupplementary_4cfef 37 = .ok (.iload 6, 2) := by decide +kernel
theorem dJ2_indexOfSupplementary_4cfef_39 : decode cJ2_indexOfSupplementary_4cfef 39 = .ok (.invokestatic 71, 3) := by decide +kernel
theorem dJ2_indexOfSupplementary_4cfef_42 : decode cJ2_indexOfSupplementary_4cfef 42 = .ok (.iload 4, 2) := by decide +kernel
theorem dJ2_indexOfSupplementary_4cfef_44 : decode cJ2_indexOfSupplementary_4cfef 44 = .ok (.if_icmp .ne 19, 3) := by decide +kernel
theorem dJ2_indexOfSupplementary_4cfef_47 : decode cJ2_indexOfSupplementary_4cfef 47 = .ok (.aload_n 0, 1) := by decide +kernel
theorem dJ2_indexOfSupplementary_4cfef_48 : decode cJ2_indexOfSupplementary_4cfef 48 = .ok (.iload 6, 2) := by decide +kernel
theorem dJ2_indexOfSupplementary_4cfef_50 : decode cJ2_indexOfSupplementary_4cfef 50 = .ok (.iconst 1, 1) := by decide +kernel
theorem dJ2_indexOfSupplementary_4cfef_51 : decode cJ2_indexOfSupplementary_4cfef 51 = .ok (.iadd, 1) := by decide +kernel
theorem dJ2_indexOfSupplementary_4cfef_52 : decode cJ2_indexOfSupplementary_4cfef 52 = .ok (.invokestatic 71, 3) := by decide +kernel
theorem dJ2_indexOfSupplementary_4cfef_55 : decode cJ2_indexOfSupplementary_4cfef 55 = .ok (.iload 5, 2) := by decide +kernel
theorem dJ2_indexOfSupplementary_4cfef_57 : decode cJ2_indexOfSupplementary_4cfef 57 = .ok (.if_icmp .ne 6, 3) := by decide +kernel
theorem dJ2_indexOfSupplementary_4cfef_60 : decode cJ2_indexOfSupplementary_4cfef 60 = .ok (.iload 6, 2) := by decide +kernel
theorem dJ2_indexOfSupplementary_4cfef_62 : decode cJ2_indexOfSupplementary_4cfef 62 = .ok (.ireturn, 1) := by decide +kernel
theorem dJ2_indexOfSupplementary_4cfef_63 : decode cJ2_indexOfSupplementary_4cfef 63 = .ok (.iinc 6 1, 3) := by decide +kernel
theorem dJ2_indexOfSupplementary_4cfef_66 : decode cJ2_indexOfSupplementary_4cfef 66 = .ok (.goto (-38), 3) := by decide +kernel
theorem dJ2_indexOfSupplementary_4cfef_69 : decode cJ2_indexOfSupplementary_4cfef 69 = .ok (.iconst (-1), 1) := by decide +kernel
theorem dJ2_indexOfSupplementary_4cfef_70 : decode cJ2_indexOfSupplementary_4cfef 70 = .ok (.ireturn, 1) := by decide +kernel
theorem dJ2_charAt_3b067_0 : decode cJ2_charAt_3b067 0 = .ok (.iload_n 1, 1) := by decide +kernel
theorem dJ2_charAt_3b067_1 : decode cJ2_charAt_3b067 1 = .ok (.aload_n 0, 1) := by decide +kernel
theorem dJ2_charAt_3b067_2 : decode cJ2_charAt_3b067 2 = .ok (.invokestatic 67, 3) := by decide +kernel
theorem dJ2_charAt_3b067_5 : decode cJ2_charAt_3b067 5 = .ok (.aload_n 0, 1) := by decide +kernel
theorem dJ2_charAt_3b067_6 : decode cJ2_charAt_3b067 6 = .ok (.iload_n 1, 1) := by decide +kernel
theorem dJ2_charAt_3b067_7 : decode cJ2_charAt_3b067 7 = .ok (.invokestatic 71, 3) := by decide +kernel
theorem dJ2_charAt_3b067_10 : decode cJ2_charAt_3b067 10 = .ok (.ireturn, 1) := by decide +kernel
theorem dJ2_checkIndex_2214a_0 : decode cJ2_checkIndex_2214a 0 = .ok (.iload_n 0, 1) := by decide +kernel
theorem dJ2_checkIndex_2214a_1 : decode cJ2_checkIndex_2214a 1 = .ok (.aload_n 1, 1) := by decide +kernel
theorem dJ2_checkIndex_2214a_2 : decode cJ2_checkIndex_2214a 2 = .ok (.invokestatic 48, 3) := by decide +kernel
theorem dJ2_checkIndex_2214a_5 : decode cJ2_checkIndex_2214a 5 = .ok (.invokestatic 414, 3) := by decide +kernel
theorem dJ2_checkIndex_2214a_8 : decode cJ2_checkIndex_2214a 8 = .ok (.return_, 1) := by decide +kernel
theorem dJ2_checkBoundsBeginEnd_d044e_0 : decode cJ2_checkBoundsBeginEnd_d044e 0 = .ok (.iload_n 0, 1) := by decide +kernel
theorem dJ2_checkBoundsBeginEnd_d044e_1 : decode cJ2_checkBoundsBeginEnd_d044e 1 = .ok (.iload_n 1, 1) := by decide +kernel
theorem dJ2_checkBoundsBeginEnd_d044e_2 : decode cJ2_checkBoundsBeginEnd_d044e 2 = .ok (.aload_n 2, 1) := by decide +kernel
theorem dJ2_checkBoundsBeginEnd_d044e_3 : decode cJ2_checkBoundsBeginEnd_d044e 3 = .ok (.invokestatic 48, 3) := by decide +kernel
theorem dJ2_checkBoundsBeginEnd_d044e_6 : decode cJ2_checkBoundsBeginEnd_d044e 6 = .ok (.invokestatic 241, 3) := by decide +kernel
theorem dJ2_checkBoundsBeginEnd_d044e_9 : decode cJ2_checkBoundsBeginEnd_d044e 9 = .ok (.return_, 1) := by decide +kernel
theorem dJ7_fill_53178_0 : decode cJ7_fill_53178 0 = .ok (.iconst 0, 1) := by decide +kernel
theorem dJ7_fill_53178_1 : decode cJ7_fill_53178 1 = .ok (.istore_n 2, 1) := by decide +kernel
theorem dJ7_fill_53178_2 : decode cJ7_fill_53178 2 = .ok (.aload_n 0, 1) := by decide +kernel
theorem dJ7_fill_53178_3 : decode cJ7_fill_53178 3 = .ok (.arraylength, 1) := by decide +kernel
theorem dJ7_fill_53178_4 : decode cJ7_fill_53178 4 = .ok (.istore_n 3, 1) := by decide +kernel
theorem dJ7_fill_53178_5 : decode cJ7_fill_53178 5 = .ok (.iload_n 2, 1) := by decide +kernel
theorem dJ7_fill_53178_6 : decode cJ7_fill_53178 6 = .ok (.iload_n 3, 1) := by decide +kernel
theorem dJ7_fill_53178_7 : decode cJ7_fill_53178 7 = .ok (.if_icmp .ge 13, 3) := by decide +kernel
theorem dJ7_fill_53178_10 : decode cJ7_fill_53178 10 = .ok (.aload_n 0, 1) := by decide +kernel
theorem dJ7_fill_53178_11 : decode cJ7_fill_53178 11 = .ok (.iload_n 2, 1) := by decide +kernel
theorem dJ7_fill_53178_12 : decode cJ7_fill_53178 12 = .ok (.iload_n 1, 1) := by decide +kernel
theorem dJ7_fill_53178_13 : decode cJ7_fill_53178 13 = .ok (.iastore, 1) := by decide +kernel
theorem dJ7_fill_53178_14 : decode cJ7_fill_53178 14 = .ok (.iinc 2 1, 3) := by decide +kernel
theorem dJ7_fill_53178_17 : decode cJ7_fill_53178 17 = .ok (.goto (-12), 3) := by decide +kernel
theorem dJ7_fill_53178_20 : decode cJ7_fill_53178 20 = .ok (.return_, 1) := by decide +kernel
theorem dJ3_checkIndex_8e157_0 : decode cJ3_checkIndex_8e157 0 = .ok (.iload_n 0, 1) := by decide +kernel
theorem dJ3_checkIndex_8e157_1 : decode cJ3_checkIndex_8e157 1 = .ok (.ifCond .lt 8, 3) := by decide +kernel
theorem dJ3_checkIndex_8e157_4 : decode cJ3_checkIndex_8e157 4 = .ok (.iload_n 0, 1) := by decide +kernel
theorem dJ3_checkIndex_8e157_5 : decode cJ3_checkIndex_8e157 5 = .ok (.iload_n 1, 1) := by decide +kernel
theorem dJ3_checkIndex_8e157_6 : decode cJ3_checkIndex_8e157 6 = .ok (.if_icmp .lt 10, 3) := by decide +kernel
theorem dJ3_checkIndex_8e157_9 : decode cJ3_checkIndex_8e157 9 = .ok (.aload_n 2, 1) := by decide +kernel
theorem dJ3_checkIndex_8e157_10 : decode cJ3_checkIndex_8e157 10 = .ok (.iload_n 0, 1) := by decide +kernel
theorem dJ3_checkIndex_8e157_11 : decode cJ3_checkIndex_8e157 11 = .ok (.iload_n 1, 1) := by decide +kernel
theorem dJ3_checkIndex_8e157_12 : decode cJ3_checkIndex_8e157 12 = .ok (.invokestatic 95, 3) := by decide +kernel
theorem dJ3_checkIndex_8e157_15 : decode cJ3_checkIndex_8e157 15 = .ok (.athrow, 1) := by decide +kernel
theorem dJ3_checkIndex_8e157_16 : decode cJ3_checkIndex_8e157 16 = .ok (.iload_n 0, 1) := by decide +kernel
theorem dJ3_checkIndex_8e157_17 : decode cJ3_checkIndex_8e157 17 = .ok (.ireturn, 1) := by decide +kernel
theorem dJ3_checkFromToIndex_8c36e_0 : decode cJ3_checkFromToIndex_8c36e 0 = .ok (.iload_n 0, 1) := by decide +kernel
theorem dJ3_checkFromToIndex_8c36e_1 : decode cJ3_checkFromToIndex_8c36e 1 = .ok (.ifCond .lt 13, 3) := by decide +kernel
theorem dJ3_checkFromToIndex_8c36e_4 : decode cJ3_checkFromToIndex_8c36e 4 = .ok (.iload_n 0, 1) := by decide +kernel
theorem dJ3_checkFromToIndex_8c36e_5 : decode cJ3_checkFromToIndex_8c36e 5 = .ok (.iload_n 1, 1) := by decide +kernel
theorem dJ3_checkFromToIndex_8c36e_6 : decode cJ3_checkFromToIndex_8c36e 6 = .ok (.if_icmp .gt 8, 3) := by decide +kernel
theorem dJ3_checkFromToIndex_8c36e_9 : decode cJ3_checkFromToIndex_8c36e 9 = .ok (.iload_n 1, 1) := by decide +kernel
theorem dJ3_checkFromToIndex_8c36e_10 : decode cJ3_checkFromToIndex_8c36e 10 = .ok (.iload_n 2, 1) := by decide +kernel
theorem dJ3_checkFromToIndex_8c36e_11 : decode cJ3_checkFromToIndex_8c36e 11 = .ok (.if_icmp .le 11, 3) := by decide +kernel
theorem dJ3_checkFromToIndex_8c36e_14 : decode cJ3_checkFromToIndex_8c36e 14 = .ok (.aload_n 3, 1) := by decide +kernel
theorem dJ3_checkFromToIndex_8c36e_15 : decode cJ3_checkFromToIndex_8c36e 15 = .ok (.iload_n 0, 1) := by decide +kernel
theorem dJ3_checkFromToIndex_8c36e_16 : decode cJ3_checkFromToIndex_8c36e 16 = .ok (.iload_n 1, 1) := by decide +kernel
theorem dJ3_checkFromToIndex_8c36e_17 : decode cJ3_checkFromToIndex_8c36e 17 = .ok (.iload_n 2, 1) := by decide +kernel
theorem dJ3_checkFromToIndex_8c36e_18 : decode cJ3_checkFromToIndex_8c36e 18 = .ok (.invokestatic 99, 3) := by decide +kernel
theorem dJ3_checkFromToIndex_8c36e_21 : decode cJ3_checkFromToIndex_8c36e 21 = .ok (.athrow, 1) := by decide +kernel
theorem dJ3_checkFromToIndex_8c36e_22 : decode cJ3_checkFromToIndex_8c36e 22 = .ok (.iload_n 0, 1) := by decide +kernel
theorem dJ3_checkFromToIndex_8c36e_23 : decode cJ3_checkFromToIndex_8c36e 23 = .ok (.ireturn, 1) := by decide +kernel
theorem dL_cell_0 : decode cL_cell 0 = .ok (.iload_n 1, 1) := by decide +kernel
theorem dL_cell_1 : decode cL_cell 1 = .ok (.aload_n 0, 1) := by decide +kernel
theorem dL_cell_2 : decode cL_cell 2 = .ok (.arraylength, 1) := by decide +kernel
theorem dL_cell_3 : decode cL_cell 3 = .ok (.if_icmp .ge 9, 3) := by decide +kernel
theorem dL_cell_6 : decode cL_cell 6 = .ok (.aload_n 0, 1) := by decide +kernel
theorem dL_cell_7 : decode cL_cell 7 = .ok (.iload_n 1, 1) := by decide +kernel
theorem dL_cell_8 : decode cL_cell 8 = .ok (.iaload, 1) := by decide +kernel
theorem dL_cell_9 : decode cL_cell 9 = .ok (.goto 4, 3) := by decide +kernel
theorem dL_cell_12 : decode cL_cell 12 = .ok (.iconst 0, 1) := by decide +kernel
theorem dL_cell_13 : decode cL_cell 13 = .ok (.ireturn, 1) := by decide +kernel
theorem dL_below_0 : decode cL_below 0 = .ok (.aload_n 3, 1) := by decide +kernel
theorem dL_below_1 : decode cL_below 1 = .ok (.iconst 0, 1) := by decide +kernel
theorem dL_below_2 : decode cL_below 2 = .ok (.aload_n 0, 1) := by decide +kernel
theorem dL_below_3 : decode cL_below 3 = .ok (.iload_n 1, 1) := by decide +kernel
theorem dL_below_4 : decode cL_below 4 = .ok (.iload_n 2, 1) := by decide +kernel
theorem dL_below_5 : decode cL_below 5 = .ok (.invokevirtual 7, 3) := by decide +kernel
theorem dL_below_8 : decode cL_below 8 = .ok (.i2l, 1) := by decide +kernel
theorem dL_below_9 : decode cL_below 9 = .ok (.lastore, 1) := by decide +kernel
theorem dL_below_10 : decode cL_below 10 = .ok (.goto 11, 3) := by decide +kernel
theorem dL_below_13 : decode cL_below 13 = .ok (.astore 4, 2) := by decide +kernel
theorem dL_below_15 : decode cL_below 15 = .ok (.iconst 1, 1) := by decide +kernel
theorem dL_below_16 : decode cL_below 16 = .ok (.ireturn, 1) := by decide +kernel
theorem dL_below_17 : decode cL_below 17 = .ok (.astore 4, 2) := by decide +kernel
theorem dL_below_19 : decode cL_below 19 = .ok (.iconst 2, 1) := by decide +kernel
theorem dL_below_20 : decode cL_below 20 = .ok (.ireturn, 1) := by decide +kernel
theorem dL_below_21 : decode cL_below 21 = .ok (.iconst 0, 1) := by decide +kernel
theorem dL_below_22 : decode cL_below 22 = .ok (.ireturn, 1) := by decide +kernel
theorem dL_seal_0 : decode cL_seal 0 = .ok (.aload_n 1, 1) := by decide +kernel
theorem dL_seal_1 : decode cL_seal 1 = .ok (.iconst 0, 1) := by decide +kernel
theorem dL_seal_2 : decode cL_seal 2 = .ok (.aload_n 0, 1) := by decide +kernel
theorem dL_seal_3 : decode cL_seal 3 = .ok (.invokevirtual 17, 3) := by decide +kernel
theorem dL_seal_6 : decode cL_seal 6 = .ok (.i2l, 1) := by decide +kernel
theorem dL_seal_7 : decode cL_seal 7 = .ok (.lastore, 1) := by decide +kernel
theorem dL_seal_8 : decode cL_seal 8 = .ok (.goto 9, 3) := by decide +kernel
theorem dL_seal_11 : decode cL_seal 11 = .ok (.astore_n 2, 1) := by decide +kernel
theorem dL_seal_12 : decode cL_seal 12 = .ok (.iconst 1, 1) := by decide +kernel
theorem dL_seal_13 : decode cL_seal 13 = .ok (.ireturn, 1) := by decide +kernel
theorem dL_seal_14 : decode cL_seal 14 = .ok (.astore_n 2, 1) := by decide +kernel
theorem dL_seal_15 : decode cL_seal 15 = .ok (.iconst 2, 1) := by decide +kernel
theorem dL_seal_16 : decode cL_seal 16 = .ok (.ireturn, 1) := by decide +kernel
theorem dL_seal_17 : decode cL_seal 17 = .ok (.iconst 0, 1) := by decide +kernel
theorem dL_seal_18 : decode cL_seal 18 = .ok (.ireturn, 1) := by decide +kernel
theorem dL_label_0 : decode cL_label 0 = .ok (.aload 4, 2) := by decide +kernel
theorem dL_label_2 : decode cL_label 2 = .ok (.iconst 0, 1) := by decide +kernel
theorem dL_label_3 : decode cL_label 3 = .ok (.aload_n 0, 1) := by decide +kernel
theorem dL_label_4 : decode cL_label 4 = .ok (.iload_n 1, 1) := by decide +kernel
theorem dL_label_5 : decode cL_label 5 = .ok (.iload_n 2, 1) := by decide +kernel
theorem dL_label_6 : decode cL_label 6 = .ok (.iload_n 3, 1) := by decide +kernel
theorem dL_label_7 : decode cL_label 7 = .ok (.invokevirtual 23, 3) := by decide +kernel
theorem dL_label_10 : decode cL_label 10 = .ok (.i2l, 1) := by decide +kernel
theorem dL_label_11 : decode cL_label 11 = .ok (.lastore, 1) := by decide +kernel
theorem dL_label_12 : decode cL_label 12 = .ok (.goto 11, 3) := by decide +kernel
theorem dL_label_15 : decode cL_label 15 = .ok (.astore 5, 2) := by decide +kernel
theorem dL_label_17 : decode cL_label 17 = .ok (.iconst 1, 1) := by decide +kernel
theorem dL_label_18 : decode cL_label 18 = .ok (.ireturn, 1) := by decide +kernel
theorem dL_label_19 : decode cL_label 19 = .ok (.astore 5, 2) := by decide +kernel
theorem dL_label_21 : decode cL_label 21 = .ok (.iconst 2, 1) := by decide +kernel
theorem dL_label_22 : decode cL_label 22 = .ok (.ireturn, 1) := by decide +kernel
theorem dL_label_23 : decode cL_label 23 = .ok (.iconst 0, 1) := by decide +kernel
theorem dL_label_24 : decode cL_label 24 = .ok (.ireturn, 1) := by decide +kernel
theorem dL_append_0 : decode cL_append 0 = .ok (.aload 4, 2) := by decide +kernel
theorem dL_append_2 : decode cL_append 2 = .ok (.iconst 0, 1) := by decide +kernel
theorem dL_append_3 : decode cL_append 3 = .ok (.aload_n 0, 1) := by decide +kernel
theorem dL_append_4 : decode cL_append 4 = .ok (.lload_n 1, 1) := by decide +kernel
theorem dL_append_5 : decode cL_append 5 = .ok (.iload_n 3, 1) := by decide +kernel
theorem dL_append_6 : decode cL_append 6 = .ok (.invokevirtual 27, 3) := by decide +kernel
theorem dL_append_9 : decode cL_append 9 = .ok (.i2l, 1) := by decide +kernel
theorem dL_append_10 : decode cL_append 10 = .ok (.lastore, 1) := by decide +kernel
theorem dL_append_11 : decode cL_append 11 = .ok (.goto 11, 3) := by decide +kernel
theorem dL_append_14 : decode cL_append 14 = .ok (.astore 5, 2) := by decide +kernel
theorem dL_append_16 : decode cL_append 16 = .ok (.iconst 1, 1) := by decide +kernel
theorem dL_append_17 : decode cL_append 17 = .ok (.ireturn, 1) := by decide +kernel
theorem dL_append_18 : decode cL_append 18 = .ok (.astore 5, 2) := by decide +kernel
theorem dL_append_20 : decode cL_append 20 = .ok (.iconst 2, 1) := by decide +kernel
theorem dL_append_21 : decode cL_append 21 = .ok (.ireturn, 1) := by decide +kernel
theorem dL_append_22 : decode cL_append 22 = .ok (.iconst 0, 1) := by decide +kernel
theorem dL_append_23 : decode cL_append 23 = .ok (.ireturn, 1) := by decide +kernel
theorem dL_compile_0 : decode cL_compile 0 = .ok (.aload_n 1, 1) := by decide +kernel
theorem dL_compile_1 : decode cL_compile 1 = .ok (.iconst 0, 1) := by decide +kernel
theorem dL_compile_2 : decode cL_compile 2 = .ok (.aload_n 0, 1) := by decide +kernel
theorem dL_compile_3 : decode cL_compile 3 = .ok (.invokevirtual 33, 3) := by decide +kernel
theorem dL_compile_6 : decode cL_compile 6 = .ok (.i2l, 1) := by decide +kernel
theorem dL_compile_7 : decode cL_compile 7 = .ok (.lastore, 1) := by decide +kernel
theorem dL_compile_8 : decode cL_compile 8 = .ok (.goto 15, 3) := by decide +kernel
theorem dL_compile_11 : decode cL_compile 11 = .ok (.astore_n 2, 1) := by decide +kernel
theorem dL_compile_12 : decode cL_compile 12 = .ok (.iconst 1, 1) := by decide +kernel
theorem dL_compile_13 : decode cL_compile 13 = .ok (.ireturn, 1) := by decide +kernel
theorem dL_compile_14 : decode cL_compile 14 = .ok (.astore_n 2, 1) := by decide +kernel
theorem dL_compile_15 : decode cL_compile 15 = .ok (.iconst 2, 1) := by decide +kernel
theorem dL_compile_16 : decode cL_compile 16 = .ok (.ireturn, 1) := by decide +kernel
theorem dL_compile_17 : decode cL_compile 17 = .ok (.astore_n 2, 1) := by decide +kernel
theorem dL_compile_18 : decode cL_compile 18 = .ok (.iconst 3, 1) := by decide +kernel
theorem dL_compile_19 : decode cL_compile 19 = .ok (.ireturn, 1) := by decide +kernel
theorem dL_compile_20 : decode cL_compile 20 = .ok (.astore_n 2, 1) := by decide +kernel
theorem dL_compile_21 : decode cL_compile 21 = .ok (.iconst 4, 1) := by decide +kernel
theorem dL_compile_22 : decode cL_compile 22 = .ok (.ireturn, 1) := by decide +kernel
theorem dL_compile_23 : decode cL_compile 23 = .ok (.iconst 0, 1) := by decide +kernel
theorem dL_compile_24 : decode cL_compile 24 = .ok (.ireturn, 1) := by decide +kernel
theorem dL_code_0 : decode cL_code 0 = .ok (.aload_n 3, 1) := by decide +kernel
theorem dL_code_1 : decode cL_code 1 = .ok (.iconst 0, 1) := by decide +kernel
theorem dL_code_2 : decode cL_code 2 = .ok (.aload_n 0, 1) := by decide +kernel
theorem dL_code_3 : decode cL_code 3 = .ok (.iload_n 1, 1) := by decide +kernel
theorem dL_code_4 : decode cL_code 4 = .ok (.iload_n 2, 1) := by decide +kernel
theorem dL_code_5 : decode cL_code 5 = .ok (.invokevirtual 38, 3) := by decide +kernel
theorem dL_code_8 : decode cL_code 8 = .ok (.i2l, 1) := by decide +kernel
theorem dL_code_9 : decode cL_code 9 = .ok (.lastore, 1) := by decide +kernel
theorem dL_code_10 : decode cL_code 10 = .ok (.goto 11, 3) := by decide +kernel
theorem dL_code_13 : decode cL_code 13 = .ok (.astore 4, 2) := by decide +kernel
theorem dL_code_15 : decode cL_code 15 = .ok (.iconst 1, 1) := by decide +kernel
theorem dL_code_16 : decode cL_code 16 = .ok (.ireturn, 1) := by decide +kernel
theorem dL_code_17 : decode cL_code 17 = .ok (.astore 4, 2) := by decide +kernel
theorem dL_code_19 : decode cL_code 19 = .ok (.iconst 2, 1) := by decide +kernel
theorem dL_code_20 : decode cL_code 20 = .ok (.ireturn, 1) := by decide +kernel
theorem dL_code_21 : decode cL_code 21 = .ok (.iconst 0, 1) := by decide +kernel
theorem dL_code_22 : decode cL_code 22 = .ok (.ireturn, 1) := by decide +kernel
theorem dL_fix_0 : decode cL_fix 0 = .ok (.aload 4, 2) := by decide +kernel
theorem dL_fix_2 : decode cL_fix 2 = .ok (.iconst 0, 1) := by decide +kernel
theorem dL_fix_3 : decode cL_fix 3 = .ok (.aload_n 0, 1) := by decide +kernel
theorem dL_fix_4 : decode cL_fix 4 = .ok (.iload_n 1, 1) := by decide +kernel
theorem dL_fix_5 : decode cL_fix 5 = .ok (.iload_n 2, 1) := by decide +kernel
theorem dL_fix_6 : decode cL_fix 6 = .ok (.iload_n 3, 1) := by decide +kernel
theorem dL_fix_7 : decode cL_fix 7 = .ok (.invokevirtual 41, 3) := by decide +kernel
theorem dL_fix_10 : decode cL_fix 10 = .ok (.i2l, 1) := by decide +kernel
theorem dL_fix_11 : decode cL_fix 11 = .ok (.lastore, 1) := by decide +kernel
theorem dL_fix_12 : decode cL_fix 12 = .ok (.goto 7, 3) := by decide +kernel
theorem dL_fix_15 : decode cL_fix 15 = .ok (.astore 5, 2) := by decide +kernel
theorem dL_fix_17 : decode cL_fix 17 = .ok (.iconst 1, 1) := by decide +kernel
theorem dL_fix_18 : decode cL_fix 18 = .ok (.ireturn, 1) := by decide +kernel
theorem dL_fix_19 : decode cL_fix 19 = .ok (.iconst 0, 1) := by decide +kernel
theorem dL_fix_20 : decode cL_fix 20 = .ok (.ireturn, 1) := by decide +kernel
theorem dL_verify_0 : decode cL_verify 0 = .ok (.aload_n 1, 1) := by decide +kernel
theorem dL_verify_1 : decode cL_verify 1 = .ok (.iconst 0, 1) := by decide +kernel
theorem dL_verify_2 : decode cL_verify 2 = .ok (.aload_n 0, 1) := by decide +kernel
theorem dL_verify_3 : decode cL_verify 3 = .ok (.invokevirtual 45, 3) := by decide +kernel
theorem dL_verify_6 : decode cL_verify 6 = .ok (.i2l, 1) := by decide +kernel
theorem dL_verify_7 : decode cL_verify 7 = .ok (.lastore, 1) := by decide +kernel
theorem dL_verify_8 : decode cL_verify 8 = .ok (.goto 9, 3) := by decide +kernel
theorem dL_verify_11 : decode cL_verify 11 = .ok (.astore_n 2, 1) := by decide +kernel
theorem dL_verify_12 : decode cL_verify 12 = .ok (.iconst 1, 1) := by decide +kernel
theorem dL_verify_13 : decode cL_verify 13 = .ok (.ireturn, 1) := by decide +kernel
theorem dL_verify_14 : decode cL_verify 14 = .ok (.astore_n 2, 1) := by decide +kernel
theorem dL_verify_15 : decode cL_verify 15 = .ok (.iconst 2, 1) := by decide +kernel
theorem dL_verify_16 : decode cL_verify 16 = .ok (.ireturn, 1) := by decide +kernel
theorem dL_verify_17 : decode cL_verify 17 = .ok (.iconst 0, 1) := by decide +kernel
theorem dL_verify_18 : decode cL_verify 18 = .ok (.ireturn, 1) := by decide +kernel
theorem dL_map_0 : decode cL_map 0 = .ok (.aload_n 3, 1) := by decide +kernel
theorem dL_map_1 : decode cL_map 1 = .ok (.iconst 0, 1) := by decide +kernel
theorem dL_map_2 : decode cL_map 2 = .ok (.aload_n 0, 1) := by decide +kernel
theorem dL_map_3 : decode cL_map 3 = .ok (.iload_n 1, 1) := by decide +kernel
theorem dL_map_4 : decode cL_map 4 = .ok (.iload_n 2, 1) := by decide +kernel
theorem dL_map_5 : decode cL_map 5 = .ok (.invokevirtual 48, 3) := by decide +kernel
theorem dL_map_8 : decode cL_map 8 = .ok (.i2l, 1) := by decide +kernel
theorem dL_map_9 : decode cL_map 9 = .ok (.lastore, 1) := by decide +kernel
theorem dL_map_10 : decode cL_map 10 = .ok (.goto 15, 3) := by decide +kernel
theorem dL_map_13 : decode cL_map 13 = .ok (.astore 4, 2) := by decide +kernel
theorem dL_map_15 : decode cL_map 15 = .ok (.iconst 1, 1) := by decide +kernel
theorem dL_map_16 : decode cL_map 16 = .ok (.ireturn, 1) := by decide +kernel
theorem dL_map_17 : decode cL_map 17 = .ok (.astore 4, 2) := by decide +kernel
theorem dL_map_19 : decode cL_map 19 = .ok (.iconst 2, 1) := by decide +kernel
theorem dL_map_20 : decode cL_map 20 = .ok (.ireturn, 1) := by decide +kernel
theorem dL_map_21 : decode cL_map 21 = .ok (.astore 4, 2) := by decide +kernel
theorem dL_map_23 : decode cL_map 23 = .ok (.iconst 3, 1) := by decide +kernel
theorem dL_map_24 : decode cL_map 24 = .ok (.ireturn, 1) := by decide +kernel
theorem dL_map_25 : decode cL_map 25 = .ok (.iconst 0, 1) := by decide +kernel
theorem dL_map_26 : decode cL_map 26 = .ok (.ireturn, 1) := by decide +kernel
theorem dL_region_0 : decode cL_region 0 = .ok (.aload_n 3, 1) := by decide +kernel
theorem dL_region_1 : decode cL_region 1 = .ok (.iconst 0, 1) := by decide +kernel
theorem dL_region_2 : decode cL_region 2 = .ok (.aload_n 0, 1) := by decide +kernel
theorem dL_region_3 : decode cL_region 3 = .ok (.iload_n 1, 1) := by decide +kernel
theorem dL_region_4 : decode cL_region 4 = .ok (.iload_n 2, 1) := by decide +kernel
theorem dL_region_5 : decode cL_region 5 = .ok (.invokevirtual 51, 3) := by decide +kernel
theorem dL_region_8 : decode cL_region 8 = .ok (.i2l, 1) := by decide +kernel
theorem dL_region_9 : decode cL_region 9 = .ok (.lastore, 1) := by decide +kernel
theorem dL_region_10 : decode cL_region 10 = .ok (.goto 19, 3) := by decide +kernel
theorem dL_region_13 : decode cL_region 13 = .ok (.astore 4, 2) := by decide +kernel
theorem dL_region_15 : decode cL_region 15 = .ok (.iconst 1, 1) := by decide +kernel
theorem dL_region_16 : decode cL_region 16 = .ok (.ireturn, 1) := by decide +kernel
theorem dL_region_17 : decode cL_region 17 = .ok (.astore 4, 2) := by decide +kernel
theorem dL_region_19 : decode cL_region 19 = .ok (.iconst 2, 1) := by decide +kernel
theorem dL_region_20 : decode cL_region 20 = .ok (.ireturn, 1) := by decide +kernel
theorem dL_region_21 : decode cL_region 21 = .ok (.astore 4, 2) := by decide +kernel
theorem dL_region_23 : decode cL_region 23 = .ok (.iconst 3, 1) := by decide +kernel
theorem dL_region_24 : decode cL_region 24 = .ok (.ireturn, 1) := by decide +kernel
theorem dL_region_25 : decode cL_region 25 = .ok (.astore 4, 2) := by decide +kernel
theorem dL_region_27 : decode cL_region 27 = .ok (.iconst 4, 1) := by decide +kernel
theorem dL_region_28 : decode cL_region 28 = .ok (.ireturn, 1) := by decide +kernel
theorem dL_region_29 : decode cL_region 29 = .ok (.iconst 0, 1) := by decide +kernel
theorem dL_region_30 : decode cL_region 30 = .ok (.ireturn, 1) := by decide +kernel
theorem dL_feed_0 : decode cL_feed 0 = .ok (.aload_n 3, 1) := by decide +kernel
theorem dL_feed_1 : decode cL_feed 1 = .ok (.iconst 0, 1) := by decide +kernel
theorem dL_feed_2 : decode cL_feed 2 = .ok (.aload_n 0, 1) := by decide +kernel
theorem dL_feed_3 : decode cL_feed 3 = .ok (.iload_n 1, 1) := by decide +kernel
theorem dL_feed_4 : decode cL_feed 4 = .ok (.iload_n 2, 1) := by decide +kernel
theorem dL_feed_5 : decode cL_feed 5 = .ok (.invokevirtual 54, 3) := by decide +kernel
theorem dL_feed_8 : decode cL_feed 8 = .ok (.i2l, 1) := by decide +kernel
theorem dL_feed_9 : decode cL_feed 9 = .ok (.lastore, 1) := by decide +kernel
theorem dL_feed_10 : decode cL_feed 10 = .ok (.goto 11, 3) := by decide +kernel
theorem dL_feed_13 : decode cL_feed 13 = .ok (.astore 4, 2) := by decide +kernel
theorem dL_feed_15 : decode cL_feed 15 = .ok (.iconst 1, 1) := by decide +kernel
theorem dL_feed_16 : decode cL_feed 16 = .ok (.ireturn, 1) := by decide +kernel
theorem dL_feed_17 : decode cL_feed 17 = .ok (.astore 4, 2) := by decide +kernel
theorem dL_feed_19 : decode cL_feed 19 = .ok (.iconst 2, 1) := by decide +kernel
theorem dL_feed_20 : decode cL_feed 20 = .ok (.ireturn, 1) := by decide +kernel
theorem dL_feed_21 : decode cL_feed 21 = .ok (.iconst 0, 1) := by decide +kernel
theorem dL_feed_22 : decode cL_feed 22 = .ok (.ireturn, 1) := by decide +kernel
theorem dL_drain_0 : decode cL_drain 0 = .ok (.aload_n 2, 1) := by decide +kernel
theorem dL_drain_1 : decode cL_drain 1 = .ok (.iconst 0, 1) := by decide +kernel
theorem dL_drain_2 : decode cL_drain 2 = .ok (.aload_n 0, 1) := by decide +kernel
theorem dL_drain_3 : decode cL_drain 3 = .ok (.iload_n 1, 1) := by decide +kernel
theorem dL_drain_4 : decode cL_drain 4 = .ok (.invokevirtual 57, 3) := by decide +kernel
theorem dL_drain_7 : decode cL_drain 7 = .ok (.i2l, 1) := by decide +kernel
theorem dL_drain_8 : decode cL_drain 8 = .ok (.lastore, 1) := by decide +kernel
theorem dL_drain_9 : decode cL_drain 9 = .ok (.goto 6, 3) := by decide +kernel
theorem dL_drain_12 : decode cL_drain 12 = .ok (.astore_n 3, 1) := by decide +kernel
theorem dL_drain_13 : decode cL_drain 13 = .ok (.iconst 1, 1) := by decide +kernel
theorem dL_drain_14 : decode cL_drain 14 = .ok (.ireturn, 1) := by decide +kernel
theorem dL_drain_15 : decode cL_drain 15 = .ok (.iconst 0, 1) := by decide +kernel
theorem dL_drain_16 : decode cL_drain 16 = .ok (.ireturn, 1) := by decide +kernel
theorem dL_run_0 : decode cL_run 0 = .ok (.aload_n 2, 1) := by decide +kernel
theorem dL_run_1 : decode cL_run 1 = .ok (.iconst 0, 1) := by decide +kernel
theorem dL_run_2 : decode cL_run 2 = .ok (.aload_n 0, 1) := by decide +kernel
theorem dL_run_3 : decode cL_run 3 = .ok (.iload_n 1, 1) := by decide +kernel
theorem dL_run_4 : decode cL_run 4 = .ok (.invokevirtual 61, 3) := by decide +kernel
theorem dL_run_7 : decode cL_run 7 = .ok (.i2l, 1) := by decide +kernel
theorem dL_run_8 : decode cL_run 8 = .ok (.lastore, 1) := by decide +kernel
theorem dL_run_9 : decode cL_run 9 = .ok (.goto 9, 3) := by decide +kernel
theorem dL_run_12 : decode cL_run 12 = .ok (.astore_n 3, 1) := by decide +kernel
theorem dL_run_13 : decode cL_run 13 = .ok (.iconst 1, 1) := by decide +kernel
theorem dL_run_14 : decode cL_run 14 = .ok (.ireturn, 1) := by decide +kernel
theorem dL_run_15 : decode cL_run 15 = .ok (.astore_n 3, 1) := by decide +kernel
theorem dL_run_16 : decode cL_run 16 = .ok (.iconst 2, 1) := by decide +kernel
theorem dL_run_17 : decode cL_run 17 = .ok (.ireturn, 1) := by decide +kernel
theorem dL_run_18 : decode cL_run 18 = .ok (.iconst 0, 1) := by decide +kernel
theorem dL_run_19 : decode cL_run 19 = .ok (.ireturn, 1) := by decide +kernel
theorem dL_walk_0 : decode cL_walk 0 = .ok (.aload_n 2, 1) := by decide +kernel
theorem dL_walk_1 : decode cL_walk 1 = .ok (.iconst 0, 1) := by decide +kernel
theorem dL_walk_2 : decode cL_walk 2 = .ok (.aload_n 0, 1) := by decide +kernel
theorem dL_walk_3 : decode cL_walk 3 = .ok (.iload_n 1, 1) := by decide +kernel
theorem dL_walk_4 : decode cL_walk 4 = .ok (.invokevirtual 64, 3) := by decide +kernel
theorem dL_walk_7 : decode cL_walk 7 = .ok (.i2l, 1) := by decide +kernel
theorem dL_walk_8 : decode cL_walk 8 = .ok (.lastore, 1) := by decide +kernel
theorem dL_walk_9 : decode cL_walk 9 = .ok (.goto 9, 3) := by decide +kernel
theorem dL_walk_12 : decode cL_walk 12 = .ok (.astore_n 3, 1) := by decide +kernel
theorem dL_walk_13 : decode cL_walk 13 = .ok (.iconst 1, 1) := by decide +kernel
theorem dL_walk_14 : decode cL_walk 14 = .ok (.ireturn, 1) := by decide +kernel
theorem dL_walk_15 : decode cL_walk 15 = .ok (.astore_n 3, 1) := by decide +kernel
theorem dL_walk_16 : decode cL_walk 16 = .ok (.iconst 2, 1) := by decide +kernel
theorem dL_walk_17 : decode cL_walk 17 = .ok (.ireturn, 1) := by decide +kernel
theorem dL_walk_18 : decode cL_walk 18 = .ok (.iconst 0, 1) := by decide +kernel
theorem dL_walk_19 : decode cL_walk 19 = .ok (.ireturn, 1) := by decide +kernel
theorem dL_output_0 : decode cL_output 0 = .ok (.aload_n 3, 1) := by decide +kernel
theorem dL_output_1 : decode cL_output 1 = .ok (.iconst 0, 1) := by decide +kernel
theorem dL_output_2 : decode cL_output 2 = .ok (.aload_n 0, 1) := by decide +kernel
theorem dL_output_3 : decode cL_output 3 = .ok (.iload_n 1, 1) := by decide +kernel
theorem dL_output_4 : decode cL_output 4 = .ok (.iload_n 2, 1) := by decide +kernel
theorem dL_output_5 : decode cL_output 5 = .ok (.invokevirtual 67, 3) := by decide +kernel
theorem dL_output_8 : decode cL_output 8 = .ok (.i2l, 1) := by decide +kernel
theorem dL_output_9 : decode cL_output 9 = .ok (.lastore, 1) := by decide +kernel
theorem dL_output_10 : decode cL_output 10 = .ok (.goto 11, 3) := by decide +kernel
theorem dL_output_13 : decode cL_output 13 = .ok (.astore 4, 2) := by decide +kernel
theorem dL_output_15 : decode cL_output 15 = .ok (.iconst 1, 1) := by decide +kernel
theorem dL_output_16 : decode cL_output 16 = .ok (.ireturn, 1) := by decide +kernel
theorem dL_output_17 : decode cL_output 17 = .ok (.astore 4, 2) := by decide +kernel
theorem dL_output_19 : decode cL_output 19 = .ok (.iconst 2, 1) := by decide +kernel
theorem dL_output_20 : decode cL_output 20 = .ok (.ireturn, 1) := by decide +kernel
theorem dL_output_21 : decode cL_output 21 = .ok (.iconst 0, 1) := by decide +kernel
theorem dL_output_22 : decode cL_output 22 = .ok (.ireturn, 1) := by decide +kernel
theorem dL_value_0 : decode cL_value 0 = .ok (.aload_n 2, 1) := by decide +kernel
theorem dL_value_1 : decode cL_value 1 = .ok (.iconst 0, 1) := by decide +kernel
theorem dL_value_2 : decode cL_value 2 = .ok (.aload_n 0, 1) := by decide +kernel
theorem dL_value_3 : decode cL_value 3 = .ok (.iload_n 1, 1) := by decide +kernel
theorem dL_value_4 : decode cL_value 4 = .ok (.invokevirtual 70, 3) := by decide +kernel
theorem dL_value_7 : decode cL_value 7 = .ok (.i2l, 1) := by decide +kernel
theorem dL_value_8 : decode cL_value 8 = .ok (.lastore, 1) := by decide +kernel
theorem dL_value_9 : decode cL_value 9 = .ok (.goto 6, 3) := by decide +kernel
theorem dL_value_12 : decode cL_value 12 = .ok (.astore_n 3, 1) := by decide +kernel
theorem dL_value_13 : decode cL_value 13 = .ok (.iconst 1, 1) := by decide +kernel
theorem dL_value_14 : decode cL_value 14 = .ok (.ireturn, 1) := by decide +kernel
theorem dL_value_15 : decode cL_value 15 = .ok (.iconst 0, 1) := by decide +kernel
theorem dL_value_16 : decode cL_value 16 = .ok (.ireturn, 1) := by decide +kernel
theorem dL_instruction_0 : decode cL_instruction 0 = .ok (.aload_n 3, 1) := by decide +kernel
theorem dL_instruction_1 : decode cL_instruction 1 = .ok (.iconst 0, 1) := by decide +kernel
theorem dL_instruction_2 : decode cL_instruction 2 = .ok (.aload_n 0, 1) := by decide +kernel
theorem dL_instruction_3 : decode cL_instruction 3 = .ok (.iload_n 1, 1) := by decide +kernel
theorem dL_instruction_4 : decode cL_instruction 4 = .ok (.iload_n 2, 1) := by decide +kernel
theorem dL_instruction_5 : decode cL_instruction 5 = .ok (.invokevirtual 73, 3) := by decide +kernel
theorem dL_instruction_8 : decode cL_instruction 8 = .ok (.i2l, 1) := by decide +kernel
theorem dL_instruction_9 : decode cL_instruction 9 = .ok (.lastore, 1) := by decide +kernel
theorem dL_instruction_10 : decode cL_instruction 10 = .ok (.goto 7, 3) := by decide +kernel
theorem dL_instruction_13 : decode cL_instruction 13 = .ok (.astore 4, 2) := by decide +kernel
theorem dL_instruction_15 : decode cL_instruction 15 = .ok (.iconst 1, 1) := by decide +kernel
theorem dL_instruction_16 : decode cL_instruction 16 = .ok (.ireturn, 1) := by decide +kernel
theorem dL_instruction_17 : decode cL_instruction 17 = .ok (.iconst 0, 1) := by decide +kernel
theorem dL_instruction_18 : decode cL_instruction 18 = .ok (.ireturn, 1) := by decide +kernel
theorem dL_count_0 : decode cL_count 0 = .ok (.aload_n 2, 1) := by decide +kernel
theorem dL_count_1 : decode cL_count 1 = .ok (.iconst 0, 1) := by decide +kernel
theorem dL_count_2 : decode cL_count 2 = .ok (.aload_n 0, 1) := by decide +kernel
theorem dL_count_3 : decode cL_count 3 = .ok (.iload_n 1, 1) := by decide +kernel
theorem dL_count_4 : decode cL_count 4 = .ok (.invokevirtual 77, 3) := by decide +kernel
theorem dL_count_7 : decode cL_count 7 = .ok (.i2l, 1) := by decide +kernel
theorem dL_count_8 : decode cL_count 8 = .ok (.lastore, 1) := by decide +kernel
theorem dL_count_9 : decode cL_count 9 = .ok (.goto 6, 3) := by decide +kernel
theorem dL_count_12 : decode cL_count 12 = .ok (.astore_n 3, 1) := by decide +kernel
theorem dL_count_13 : decode cL_count 13 = .ok (.iconst 1, 1) := by decide +kernel
theorem dL_count_14 : decode cL_count 14 = .ok (.ireturn, 1) := by decide +kernel
theorem dL_count_15 : decode cL_count 15 = .ok (.iconst 0, 1) := by decide +kernel
theorem dL_count_16 : decode cL_count 16 = .ok (.ireturn, 1) := by decide +kernel
theorem dL_law_0 : decode cL_law 0 = .ok (.new 8, 3) := by decide +kernel
theorem dL_law_3 : decode cL_law 3 = .ok (.dup, 1) := by decide +kernel
theorem dL_law_4 : decode cL_law 4 = .ok (.aload_n 0, 1) := by decide +kernel
theorem dL_law_5 : decode cL_law 5 = .ok (.iconst 0, 1) := by decide +kernel
theorem dL_law_6 : decode cL_law 6 = .ok (.invokestatic 80, 3) := by decide +kernel
theorem dL_law_9 : decode cL_law 9 = .ok (.invokespecial 86, 3) := by decide +kernel
theorem dL_law_12 : decode cL_law 12 = .ok (.astore_n 1, 1) := by decide +kernel
theorem dL_law_13 : decode cL_law 13 = .ok (.new 89, 3) := by decide +kernel
theorem dL_law_16 : decode cL_law 16 = .ok (.dup, 1) := by decide +kernel
theorem dL_law_17 : decode cL_law 17 = .ok (.aload_n 0, 1) := by decide +kernel
theorem dL_law_18 : decode cL_law 18 = .ok (.iconst 0, 1) := by decide +kernel
theorem dL_law_19 : decode cL_law 19 = .ok (.invokestatic 80, 3) := by decide +kernel
theorem dL_law_22 : decode cL_law 22 = .ok (.invokespecial 91, 3) := by decide +kernel
theorem dL_law_25 : decode cL_law 25 = .ok (.astore_n 2, 1) := by decide +kernel
theorem dL_law_26 : decode cL_law 26 = .ok (.iconst 1, 1) := by decide +kernel
theorem dL_law_27 : decode cL_law 27 = .ok (.newarray .long, 2) := by decide +kernel
theorem dL_law_29 : decode cL_law 29 = .ok (.astore_n 3, 1) := by decide +kernel
theorem dL_law_30 : decode cL_law 30 = .ok (.iconst 1, 1) := by decide +kernel
theorem dL_law_31 : decode cL_law 31 = .ok (.istore 4, 2) := by decide +kernel
theorem dL_law_33 : decode cL_law 33 = .ok (.iload 4, 2) := by decide +kernel
theorem dL_law_35 : decode cL_law 35 = .ok (.aload_n 0, 1) := by decide +kernel
theorem dL_law_36 : decode cL_law 36 = .ok (.arraylength, 1) := by decide +kernel
theorem dL_law_37 : decode cL_law 37 = .ok (.iconst 4, 1) := by decide +kernel
theorem dL_law_38 : decode cL_law 38 = .ok (.isub, 1) := by decide +kernel
theorem dL_law_39 : decode cL_law 39 = .ok (.if_icmp .gt 1300, 3) := by decide +kernel
theorem dL_law_42 : decode cL_law 42 = .ok (.aload_n 0, 1) := by decide +kernel
theorem dL_law_43 : decode cL_law 43 = .ok (.iload 4, 2) := by decide +kernel
theorem dL_law_45 : decode cL_law 45 = .ok (.iaload, 1) := by decide +kernel
theorem dL_law_46 : decode cL_law 46 = .ok (.bipush 31, 2) := by decide +kernel
theorem dL_law_48 : decode cL_law 48 = .ok (.iand, 1) := by decide +kernel
theorem dL_law_49 : decode cL_law 49 = .ok (.tableswitch 1284 0 18 #[91, 159, 203, 283, 383, 427, 495, 591, 604, 648, 716, 784, 852, 908, 964, 1020, 1088, 1144, 1228], 91) := by decide +kernel
theorem dL_law_140 : decode cL_law 140 = .ok (.aload_n 1, 1) := by decide +kernel
theorem dL_law_141 : decode cL_law 141 = .ok (.aload_n 0, 1) := by decide +kernel
theorem dL_law_142 : decode cL_law 142 = .ok (.iload 4, 2) := by decide +kernel
theorem dL_law_144 : decode cL_law 144 = .ok (.iconst 1, 1) := by decide +kernel
theorem dL_law_145 : decode cL_law 145 = .ok (.iadd, 1) := by decide +kernel
theorem dL_law_146 : decode cL_law 146 = .ok (.iaload, 1) := by decide +kernel
theorem dL_law_147 : decode cL_law 147 = .ok (.aload_n 0, 1) := by decide +kernel
theorem dL_law_148 : decode cL_law 148 = .ok (.iload 4, 2) := by decide +kernel
theorem dL_law_150 : decode cL_law 150 = .ok (.iconst 2, 1) := by decide +kernel
theorem dL_law_151 : decode cL_law 151 = .ok (.iadd, 1) := by decide +kernel
theorem dL_law_152 : decode cL_law 152 = .ok (.iaload, 1) := by decide +kernel
theorem dL_law_153 : decode cL_law 153 = .ok (.aload_n 3, 1) := by decide +kernel
theorem dL_law_154 : decode cL_law 154 = .ok (.invokestatic 92, 3) := by decide +kernel
theorem dL_law_157 : decode cL_law 157 = .ok (.istore 5, 2) := by decide +kernel
theorem dL_law_159 : decode cL_law 159 = .ok (.aload_n 2, 1) := by decide +kernel
theorem dL_law_160 : decode cL_law 160 = .ok (.aload_n 0, 1) := by decide +kernel
theorem dL_law_161 : decode cL_law 161 = .ok (.iload 4, 2) := by decide +kernel
theorem dL_law_163 : decode cL_law 163 = .ok (.iconst 1, 1) := by decide +kernel
theorem dL_law_164 : decode cL_law 164 = .ok (.iadd, 1) := by decide +kernel
theorem dL_law_165 : decode cL_law 165 = .ok (.iaload, 1) := by decide +kernel
theorem dL_law_166 : decode cL_law 166 = .ok (.aload_n 0, 1) := by decide +kernel
theorem dL_law_167 : decode cL_law 167 = .ok (.iload 4, 2) := by decide +kernel
theorem dL_law_169 : decode cL_law 169 = .ok (.iconst 2, 1) := by decide +kernel
theorem dL_law_170 : decode cL_law 170 = .ok (.iadd, 1) := by decide +kernel
theorem dL_law_171 : decode cL_law 171 = .ok (.iaload, 1) := by decide +kernel
theorem dL_law_172 : decode cL_law 172 = .ok (.invokevirtual 95, 3) := by decide +kernel
theorem dL_law_175 : decode cL_law 175 = .ok (.istore 6, 2) := by decide +kernel
theorem dL_law_177 : decode cL_law 177 = .ok (.aload_n 2, 1) := by decide +kernel
theorem dL_law_178 : decode cL_law 178 = .ok (.invokevirtual 96, 3) := by decide +kernel
theorem dL_law_181 : decode cL_law 181 = .ok (.iload 5, 2) := by decide +kernel
theorem dL_law_183 : decode cL_law 183 = .ok (.if_icmp .eq 5, 3) := by decide +kernel
theorem dL_law_186 : decode cL_law 186 = .ok (.iconst 0, 1) := by decide +kernel
theorem dL_law_187 : decode cL_law 187 = .ok (.ireturn, 1) := by decide +kernel
theorem dL_law_188 : decode cL_law 188 = .ok (.iload 5, 2) := by decide +kernel
theorem dL_law_190 : decode cL_law 190 = .ok (.ifCond .ne 15, 3) := by decide +kernel
theorem dL_law_193 : decode cL_law 193 = .ok (.aload_n 3, 1) := by decide +kernel
theorem dL_law_194 : decode cL_law 194 = .ok (.iconst 0, 1) := by decide +kernel
theorem dL_law_195 : decode cL_law 195 = .ok (.laload, 1) := by decide +kernel
theorem dL_law_196 : decode cL_law 196 = .ok (.iload 6, 2) := by decide +kernel
theorem dL_law_198 : decode cL_law 198 = .ok (.i2l, 1) := by decide +kernel
theorem dL_law_199 : decode cL_law 199 = .ok (.lcmp, 1) := by decide +kernel
theorem dL_law_200 : decode cL_law 200 = .ok (.ifCond .eq 5, 3) := by decide +kernel
theorem dL_law_203 : decode cL_law 203 = .ok (.iconst 0, 1) := by decide +kernel
theorem dL_law_204 : decode cL_law 204 = .ok (.ireturn, 1) := by decide +kernel
theorem dL_law_205 : decode cL_law 205 = .ok (.goto 1128, 3) := by decide +kernel
theorem dL_law_208 : decode cL_law 208 = .ok (.aload_n 1, 1) := by decide +kernel
theorem dL_law_209 : decode cL_law 209 = .ok (.aload_n 3, 1) := by decide +kernel
theorem dL_law_210 : decode cL_law 210 = .ok (.invokestatic 99, 3) := by decide +kernel
theorem dL_law_213 : decode cL_law 213 = .ok (.istore 5, 2) := by decide +kernel
theorem dL_law_215 : decode cL_law 215 = .ok (.aload_n 2, 1) := by decide +kernel
theorem dL_law_216 : decode cL_law 216 = .ok (.invokevirtual 102, 3) := by decide +kernel
theorem dL_law_219 : decode cL_law 219 = .ok (.istore 6, 2) := by decide +kernel
theorem dL_law_221 : decode cL_law 221 = .ok (.aload_n 2, 1) := by decide +kernel
theorem dL_law_222 : decode cL_law 222 = .ok (.invokevirtual 96, 3) := by decide +kernel
theorem dL_law_225 : decode cL_law 225 = .ok (.iload 5, 2) := by decide +kernel
theorem dL_law_227 : decode cL_law 227 = .ok (.if_icmp .eq 5, 3) := by decide +kernel
theorem dL_law_230 : decode cL_law 230 = .ok (.iconst 0, 1) := by decide +kernel
theorem dL_law_231 : decode cL_law 231 = .ok (.ireturn, 1) := by decide +kernel
theorem dL_law_232 : decode cL_law 232 = .ok (.iload 5, 2) := by decide +kernel
theorem dL_law_234 : decode cL_law 234 = .ok (.ifCond .ne 15, 3) := by decide +kernel
theorem dL_law_237 : decode cL_law 237 = .ok (.aload_n 3, 1) := by decide +kernel
theorem dL_law_238 : decode cL_law 238 = .ok (.iconst 0, 1) := by decide +kernel
theorem dL_law_239 : decode cL_law 239 = .ok (.laload, 1) := by decide +kernel
theorem dL_law_240 : decode cL_law 240 = .ok (.iload 6, 2) := by decide +kernel
theorem dL_law_242 : decode cL_law 242 = .ok (.i2l, 1) := by decide +kernel
theorem dL_law_243 : decode cL_law 243 = .ok (.lcmp, 1) := by decide +kernel
theorem dL_law_244 : decode cL_law 244 = .ok (.ifCond .eq 5, 3) := by decide +kernel
theorem dL_law_247 : decode cL_law 247 = .ok (.iconst 0, 1) := by decide +kernel
theorem dL_law_248 : decode cL_law 248 = .ok (.ireturn, 1) := by decide +kernel
theorem dL_law_249 : decode cL_law 249 = .ok (.goto 1084, 3) := by decide +kernel
theorem dL_law_252 : decode cL_law 252 = .ok (.aload_n 1, 1) := by decide +kernel
theorem dL_law_253 : decode cL_law 253 = .ok (.aload_n 0, 1) := by decide +kernel
theorem dL_law_254 : decode cL_law 254 = .ok (.iload 4, 2) := by decide +kernel
theorem dL_law_256 : decode cL_law 256 = .ok (.iconst 1, 1) := by decide +kernel
theorem dL_law_257 : decode cL_law 257 = .ok (.iadd, 1) := by decide +kernel
theorem dL_law_258 : decode cL_law 258 = .ok (.iaload, 1) := by decide +kernel
theorem dL_law_259 : decode cL_law 259 = .ok (.aload_n 0, 1) := by decide +kernel
theorem dL_law_260 : decode cL_law 260 = .ok (.iload 4, 2) := by decide +kernel
theorem dL_law_262 : decode cL_law 262 = .ok (.iconst 2, 1) := by decide +kernel
theorem dL_law_263 : decode cL_law 263 = .ok (.iadd, 1) := by decide +kernel
theorem dL_law_264 : decode cL_law 264 = .ok (.iaload, 1) := by decide +kernel
theorem dL_law_265 : decode cL_law 265 = .ok (.aload_n 0, 1) := by decide +kernel
theorem dL_law_266 : decode cL_law 266 = .ok (.iload 4, 2) := by decide +kernel
theorem dL_law_268 : decode cL_law 268 = .ok (.iconst 3, 1) := by decide +kernel
theorem dL_law_269 : decode cL_law 269 = .ok (.iadd, 1) := by decide +kernel
theorem dL_law_270 : decode cL_law 270 = .ok (.iaload, 1) := by decide +kernel
theorem dL_law_271 : decode cL_law 271 = .ok (.aload_n 3, 1) := by decide +kernel
theorem dL_law_272 : decode cL_law 272 = .ok (.invokestatic 103, 3) := by decide +kernel
theorem dL_law_275 : decode cL_law 275 = .ok (.istore 5, 2) := by decide +kernel
theorem dL_law_277 : decode cL_law 277 = .ok (.aload_n 2, 1) := by decide +kernel
theorem dL_law_278 : decode cL_law 278 = .ok (.aload_n 0, 1) := by decide +kernel
theorem dL_law_279 : decode cL_law 279 = .ok (.iload 4, 2) := by decide +kernel
theorem dL_law_281 : decode cL_law 281 = .ok (.iconst 1, 1) := by decide +kernel
theorem dL_law_282 : decode cL_law 282 = .ok (.iadd, 1) := by decide +kernel
theorem dL_law_283 : decode cL_law 283 = .ok (.iaload, 1) := by decide +kernel
theorem dL_law_284 : decode cL_law 284 = .ok (.aload_n 0, 1) := by decide +kernel
theorem dL_law_285 : decode cL_law 285 = .ok (.iload 4, 2) := by decide +kernel
theorem dL_law_287 : decode cL_law 287 = .ok (.iconst 2, 1) := by decide +kernel
theorem dL_law_288 : decode cL_law 288 = .ok (.iadd, 1) := by decide +kernel
theorem dL_law_289 : decode cL_law 289 = .ok (.iaload, 1) := by decide +kernel
theorem dL_law_290 : decode cL_law 290 = .ok (.aload_n 0, 1) := by decide +kernel
theorem dL_law_291 : decode cL_law 291 = .ok (.iload 4, 2) := by decide +kernel
theorem dL_law_293 : decode cL_law 293 = .ok (.iconst 3, 1) := by decide +kernel
theorem dL_law_294 : decode cL_law 294 = .ok (.iadd, 1) := by decide +kernel
theorem dL_law_295 : decode cL_law 295 = .ok (.iaload, 1) := by decide +kernel
theorem dL_law_296 : decode cL_law 296 = .ok (.invokevirtual 106, 3) := by decide +kernel
theorem dL_law_299 : decode cL_law 299 = .ok (.istore 6, 2) := by decide +kernel
theorem dL_law_301 : decode cL_law 301 = .ok (.aload_n 2, 1) := by decide +kernel
theorem dL_law_302 : decode cL_law 302 = .ok (.invokevirtual 96, 3) := by decide +kernel
theorem dL_law_305 : decode cL_law 305 = .ok (.iload 5, 2) := by decide +kernel
theorem dL_law_307 : decode cL_law 307 = .ok (.if_icmp .eq 5, 3) := by decide +kernel
theorem dL_law_310 : decode cL_law 310 = .ok (.iconst 0, 1) := by decide +kernel
theorem dL_law_311 : decode cL_law 311 = .ok (.ireturn, 1) := by decide +kernel
theorem dL_law_312 : decode cL_law 312 = .ok (.iload 5, 2) := by decide +kernel
theorem dL_law_314 : decode cL_law 314 = .ok (.ifCond .ne 15, 3) := by decide +kernel
theorem dL_law_317 : decode cL_law 317 = .ok (.aload_n 3, 1) := by decide +kernel
theorem dL_law_318 : decode cL_law 318 = .ok (.iconst 0, 1) := by decide +kernel
theorem dL_law_319 : decode cL_law 319 = .ok (.laload, 1) := by decide +kernel
theorem dL_law_320 : decode cL_law 320 = .ok (.iload 6, 2) := by decide +kernel
theorem dL_law_322 : decode cL_law 322 = .ok (.i2l, 1) := by decide +kernel
theorem dL_law_323 : decode cL_law 323 = .ok (.lcmp, 1) := by decide +kernel
theorem dL_law_324 : decode cL_law 324 = .ok (.ifCond .eq 5, 3) := by decide +kernel
theorem dL_law_327 : decode cL_law 327 = .ok (.iconst 0, 1) := by decide +kernel
theorem dL_law_328 : decode cL_law 328 = .ok (.ireturn, 1) := by decide +kernel
theorem dL_law_329 : decode cL_law 329 = .ok (.goto 1004, 3) := by decide +kernel
theorem dL_law_332 : decode cL_law 332 = .ok (.aload_n 1, 1) := by decide +kernel
theorem dL_law_333 : decode cL_law 333 = .ok (.aload_n 0, 1) := by decide +kernel
theorem dL_law_334 : decode cL_law 334 = .ok (.iload 4, 2) := by decide +kernel
theorem dL_law_336 : decode cL_law 336 = .ok (.iconst 1, 1) := by decide +kernel
theorem dL_law_337 : decode cL_law 337 = .ok (.iadd, 1) := by decide +kernel
theorem dL_law_338 : decode cL_law 338 = .ok (.iaload, 1) := by decide +kernel
theorem dL_law_339 : decode cL_law 339 = .ok (.i2l, 1) := by decide +kernel
theorem dL_law_340 : decode cL_law 340 = .ok (.bipush 32, 2) := by decide +kernel
theorem dL_law_342 : decode cL_law 342 = .ok (.lshl, 1) := by decide +kernel
theorem dL_law_343 : decode cL_law 343 = .ok (.aload_n 0, 1) := by decide +kernel
theorem dL_law_344 : decode cL_law 344 = .ok (.iload 4, 2) := by decide +kernel
theorem dL_law_346 : decode cL_law 346 = .ok (.iconst 2, 1) := by decide +kernel
theorem dL_law_347 : decode cL_law 347 = .ok (.iadd, 1) := by decide +kernel
theorem dL_law_348 : decode cL_law 348 = .ok (.iaload, 1) := by decide +kernel
theorem dL_law_349 : decode cL_law 349 = .ok (.i2l, 1) := by decide +kernel
theorem dL_law_350 : decode cL_law 350 = .ok (.ldc2_w 107, 3) := by decide +kernel
theorem dL_law_353 : decode cL_law 353 = .ok (.land, 1) := by decide +kernel
theorem dL_law_354 : decode cL_law 354 = .ok (.lor, 1) := by decide +kernel
theorem dL_law_355 : decode cL_law 355 = .ok (.aload_n 0, 1) := by decide +kernel
theorem dL_law_356 : decode cL_law 356 = .ok (.iload 4, 2) := by decide +kernel
theorem dL_law_358 : decode cL_law 358 = .ok (.iconst 3, 1) := by decide +kernel
theorem dL_law_359 : decode cL_law 359 = .ok (.iadd, 1) := by decide +kernel
theorem dL_law_360 : decode cL_law 360 = .ok (.iaload, 1) := by decide +kernel
theorem dL_law_361 : decode cL_law 361 = .ok (.aload_n 3, 1) := by decide +kernel
theorem dL_law_362 : decode cL_law 362 = .ok (.invokestatic 109, 3) := by decide +kernel
theorem dL_law_365 : decode cL_law 365 = .ok (.istore 5, 2) := by decide +kernel
theorem dL_law_367 : decode cL_law 367 = .ok (.aload_n 2, 1) := by decide +kernel
theorem dL_law_368 : decode cL_law 368 = .ok (.aload_n 0, 1) := by decide +kernel
theorem dL_law_369 : decode cL_law 369 = .ok (.iload 4, 2) := by decide +kernel
theorem dL_law_371 : decode cL_law 371 = .ok (.iconst 1, 1) := by decide +kernel
theorem dL_law_372 : decode cL_law 372 = .ok (.iadd, 1) := by decide +kernel
theorem dL_law_373 : decode cL_law 373 = .ok (.iaload, 1) := by decide +kernel
theorem dL_law_374 : decode cL_law 374 = .ok (.i2l, 1) := by decide +kernel
theorem dL_law_375 : decode cL_law 375 = .ok (.bipush 32, 2) := by decide +kernel
theorem dL_law_377 : decode cL_law 377 = .ok (.lshl, 1) := by decide +kernel
theorem dL_law_378 : decode cL_law 378 = .ok (.aload_n 0, 1) := by decide +kernel
theorem dL_law_379 : decode cL_law 379 = .ok (.iload 4, 2) := by decide +kernel
theorem dL_law_381 : decode cL_law 381 = .ok (.iconst 2, 1) := by decide +kernel
theorem dL_law_382 : decode cL_law 382 = .ok (.iadd, 1) := by decide +kernel
theorem dL_law_383 : decode cL_law 383 = .ok (.iaload, 1) := by decide +kernel
theorem dL_law_384 : decode cL_law 384 = .ok (.i2l, 1) := by decide +kernel
theorem dL_law_385 : decode cL_law 385 = .ok (.ldc2_w 107, 3) := by decide +kernel
theorem dL_law_388 : decode cL_law 388 = .ok (.land, 1) := by decide +kernel
theorem dL_law_389 : decode cL_law 389 = .ok (.lor, 1) := by decide +kernel
theorem dL_law_390 : decode cL_law 390 = .ok (.aload_n 0, 1) := by decide +kernel
theorem dL_law_391 : decode cL_law 391 = .ok (.iload 4, 2) := by decide +kernel
theorem dL_law_393 : decode cL_law 393 = .ok (.iconst 3, 1) := by decide +kernel
theorem dL_law_394 : decode cL_law 394 = .ok (.iadd, 1) := by decide +kernel
theorem dL_law_395 : decode cL_law 395 = .ok (.iaload, 1) := by decide +kernel
theorem dL_law_396 : decode cL_law 396 = .ok (.invokevirtual 112, 3) := by decide +kernel
theorem dL_law_399 : decode cL_law 399 = .ok (.istore 6, 2) := by decide +kernel
theorem dL_law_401 : decode cL_law 401 = .ok (.aload_n 2, 1) := by decide +kernel
theorem dL_law_402 : decode cL_law 402 = .ok (.invokevirtual 96, 3) := by decide +kernel
theorem dL_law_405 : decode cL_law 405 = .ok (.iload 5, 2) := by decide +kernel
theorem dL_law_407 : decode cL_law 407 = .ok (.if_icmp .eq 5, 3) := by decide +kernel
theorem dL_law_410 : decode cL_law 410 = .ok (.iconst 0, 1) := by decide +kernel
theorem dL_law_411 : decode cL_law 411 = .ok (.ireturn, 1) := by decide +kernel
theorem dL_law_412 : decode cL_law 412 = .ok (.iload 5, 2) := by decide +kernel
theorem dL_law_414 : decode cL_law 414 = .ok (.ifCond .ne 15, 3) := by decide +kernel
theorem dL_law_417 : decode cL_law 417 = .ok (.aload_n 3, 1) := by decide +kernel
theorem dL_law_418 : decode cL_law 418 = .ok (.iconst 0, 1) := by decide +kernel
theorem dL_law_419 : decode cL_law 419 = .ok (.laload, 1) := by decide +kernel
theorem dL_law_420 : decode cL_law 420 = .ok (.iload 6, 2) := by decide +kernel
theorem dL_law_422 : decode cL_law 422 = .ok (.i2l, 1) := by decide +kernel
theorem dL_law_423 : decode cL_law 423 = .ok (.lcmp, 1) := by decide +kernel
theorem dL_law_424 : decode cL_law 424 = .ok (.ifCond .eq 5, 3) := by decide +kernel
theorem dL_law_427 : decode cL_law 427 = .ok (.iconst 0, 1) := by decide +kernel
theorem dL_law_428 : decode cL_law 428 = .ok (.ireturn, 1) := by decide +kernel
theorem dL_law_429 : decode cL_law 429 = .ok (.goto 904, 3) := by decide +kernel
theorem dL_law_432 : decode cL_law 432 = .ok (.aload_n 1, 1) := by decide +kernel
theorem dL_law_433 : decode cL_law 433 = .ok (.aload_n 3, 1) := by decide +kernel
theorem dL_law_434 : decode cL_law 434 = .ok (.invokestatic 113, 3) := by decide +kernel
theorem dL_law_437 : decode cL_law 437 = .ok (.istore 5, 2) := by decide +kernel
theorem dL_law_439 : decode cL_law 439 = .ok (.aload_n 2, 1) := by decide +kernel
theorem dL_law_440 : decode cL_law 440 = .ok (.invokevirtual 115, 3) := by decide +kernel
theorem dL_law_443 : decode cL_law 443 = .ok (.istore 6, 2) := by decide +kernel
theorem dL_law_445 : decode cL_law 445 = .ok (.aload_n 2, 1) := by decide +kernel
theorem dL_law_446 : decode cL_law 446 = .ok (.invokevirtual 96, 3) := by decide +kernel
theorem dL_law_449 : decode cL_law 449 = .ok (.iload 5, 2) := by decide +kernel
theorem dL_law_451 : decode cL_law 451 = .ok (.if_icmp .eq 5, 3) := by decide +kernel
theorem dL_law_454 : decode cL_law 454 = .ok (.iconst 0, 1) := by decide +kernel
theorem dL_law_455 : decode cL_law 455 = .ok (.ireturn, 1) := by decide +kernel
theorem dL_law_456 : decode cL_law 456 = .ok (.iload 5, 2) := by decide +kernel
theorem dL_law_458 : decode cL_law 458 = .ok (.ifCond .ne 15, 3) := by decide +kernel
theorem dL_law_461 : decode cL_law 461 = .ok (.aload_n 3, 1) := by decide +kernel
theorem dL_law_462 : decode cL_law 462 = .ok (.iconst 0, 1) := by decide +kernel
theorem dL_law_463 : decode cL_law 463 = .ok (.laload, 1) := by decide +kernel
theorem dL_law_464 : decode cL_law 464 = .ok (.iload 6, 2) := by decide +kernel
theorem dL_law_466 : decode cL_law 466 = .ok (.i2l, 1) := by decide +kernel
theorem dL_law_467 : decode cL_law 467 = .ok (.lcmp, 1) := by decide +kernel
theorem dL_law_468 : decode cL_law 468 = .ok (.ifCond .eq 5, 3) := by decide +kernel
theorem dL_law_471 : decode cL_law 471 = .ok (.iconst 0, 1) := by decide +kernel
theorem dL_law_472 : decode cL_law 472 = .ok (.ireturn, 1) := by decide +kernel
theorem dL_law_473 : decode cL_law 473 = .ok (.goto 860, 3) := by decide +kernel
theorem dL_law_476 : decode cL_law 476 = .ok (.aload_n 1, 1) := by decide +kernel
theorem dL_law_477 : decode cL_law 477 = .ok (.aload_n 0, 1) := by decide +kernel
theorem dL_law_478 : decode cL_law 478 = .ok (.iload 4, 2) := by decide +kernel
theorem dL_law_480 : decode cL_law 480 = .ok (.iconst 1, 1) := by decide +kernel
theorem dL_law_481 : decode cL_law 481 = .ok (.iadd, 1) := by decide +kernel
theorem dL_law_482 : decode cL_law 482 = .ok (.iaload, 1) := by decide +kernel
theorem dL_law_483 : decode cL_law 483 = .ok (.aload_n 0, 1) := by decide +kernel
theorem dL_law_484 : decode cL_law 484 = .ok (.iload 4, 2) := by decide +kernel
theorem dL_law_486 : decode cL_law 486 = .ok (.iconst 2, 1) := by decide +kernel
theorem dL_law_487 : decode cL_law 487 = .ok (.iadd, 1) := by decide +kernel
theorem dL_law_488 : decode cL_law 488 = .ok (.iaload, 1) := by decide +kernel
theorem dL_law_489 : decode cL_law 489 = .ok (.aload_n 3, 1) := by decide +kernel
theorem dL_law_490 : decode cL_law 490 = .ok (.invokestatic 116, 3) := by decide +kernel
theorem dL_law_493 : decode cL_law 493 = .ok (.istore 5, 2) := by decide +kernel
theorem dL_law_495 : decode cL_law 495 = .ok (.aload_n 2, 1) := by decide +kernel
theorem dL_law_496 : decode cL_law 496 = .ok (.aload_n 0, 1) := by decide +kernel
theorem dL_law_497 : decode cL_law 497 = .ok (.iload 4, 2) := by decide +kernel
theorem dL_law_499 : decode cL_law 499 = .ok (.iconst 1, 1) := by decide +kernel
theorem dL_law_500 : decode cL_law 500 = .ok (.iadd, 1) := by decide +kernel
theorem dL_law_501 : decode cL_law 501 = .ok (.iaload, 1) := by decide +kernel
theorem dL_law_502 : decode cL_law 502 = .ok (.aload_n 0, 1) := by decide +kernel
theorem dL_law_503 : decode cL_law 503 = .ok (.iload 4, 2) := by decide +kernel
theorem dL_law_505 : decode cL_law 505 = .ok (.iconst 2, 1) := by decide +kernel
theorem dL_law_506 : decode cL_law 506 = .ok (.iadd, 1) := by decide +kernel
theorem dL_law_507 : decode cL_law 507 = .ok (.iaload, 1) := by decide +kernel
theorem dL_law_508 : decode cL_law 508 = .ok (.invokevirtual 118, 3) := by decide +kernel
theorem dL_law_511 : decode cL_law 511 = .ok (.istore 6, 2) := by decide +kernel
theorem dL_law_513 : decode cL_law 513 = .ok (.aload_n 2, 1) := by decide +kernel
theorem dL_law_514 : decode cL_law 514 = .ok (.invokevirtual 96, 3) := by decide +kernel
theorem dL_law_517 : decode cL_law 517 = .ok (.iload 5, 2) := by decide +kernel
theorem dL_law_519 : decode cL_law 519 = .ok (.if_icmp .eq 5, 3) := by decide +kernel
theorem dL_law_522 : decode cL_law 522 = .ok (.iconst 0, 1) := by decide +kernel
theorem dL_law_523 : decode cL_law 523 = .ok (.ireturn, 1) := by decide +kernel
theorem dL_law_524 : decode cL_law 524 = .ok (.iload 5, 2) := by decide +kernel
theorem dL_law_526 : decode cL_law 526 = .ok (.ifCond .ne 15, 3) := by decide +kernel
theorem dL_law_529 : decode cL_law 529 = .ok (.aload_n 3, 1) := by decide +kernel
theorem dL_law_530 : decode cL_law 530 = .ok (.iconst 0, 1) := by decide +kernel
theorem dL_law_531 : decode cL_law 531 = .ok (.laload, 1) := by decide +kernel
theorem dL_law_532 : decode cL_law 532 = .ok (.iload 6, 2) := by decide +kernel
theorem dL_law_534 : decode cL_law 534 = .ok (.i2l, 1) := by decide +kernel
theorem dL_law_535 : decode cL_law 535 = .ok (.lcmp, 1) := by decide +kernel
theorem dL_law_536 : decode cL_law 536 = .ok (.ifCond .eq 5, 3) := by decide +kernel
theorem dL_law_539 : decode cL_law 539 = .ok (.iconst 0, 1) := by decide +kernel
theorem dL_law_540 : decode cL_law 540 = .ok (.ireturn, 1) := by decide +kernel
theorem dL_law_541 : decode cL_law 541 = .ok (.goto 792, 3) := by decide +kernel
theorem dL_law_544 : decode cL_law 544 = .ok (.aload_n 1, 1) := by decide +kernel
theorem dL_law_545 : decode cL_law 545 = .ok (.aload_n 0, 1) := by decide +kernel
theorem dL_law_546 : decode cL_law 546 = .ok (.iload 4, 2) := by decide +kernel
theorem dL_law_548 : decode cL_law 548 = .ok (.iconst 1, 1) := by decide +kernel
theorem dL_law_549 : decode cL_law 549 = .ok (.iadd, 1) := by decide +kernel
theorem dL_law_550 : decode cL_law 550 = .ok (.iaload, 1) := by decide +kernel
theorem dL_law_551 : decode cL_law 551 = .ok (.aload_n 0, 1) := by decide +kernel
theorem dL_law_552 : decode cL_law 552 = .ok (.iload 4, 2) := by decide +kernel
theorem dL_law_554 : decode cL_law 554 = .ok (.iconst 2, 1) := by decide +kernel
theorem dL_law_555 : decode cL_law 555 = .ok (.iadd, 1) := by decide +kernel
theorem dL_law_556 : decode cL_law 556 = .ok (.iaload, 1) := by decide +kernel
theorem dL_law_557 : decode cL_law 557 = .ok (.ifCond .eq 7, 3) := by decide +kernel
theorem dL_law_560 : decode cL_law 560 = .ok (.iconst 1, 1) := by decide +kernel
theorem dL_law_561 : decode cL_law 561 = .ok (.goto 4, 3) := by decide +kernel
theorem dL_law_564 : decode cL_law 564 = .ok (.iconst 0, 1) := by decide +kernel
theorem dL_law_565 : decode cL_law 565 = .ok (.aload_n 0, 1) := by decide +kernel
theorem dL_law_566 : decode cL_law 566 = .ok (.iload 4, 2) := by decide +kernel
theorem dL_law_568 : decode cL_law 568 = .ok (.iconst 3, 1) := by decide +kernel
theorem dL_law_569 : decode cL_law 569 = .ok (.iadd, 1) := by decide +kernel
theorem dL_law_570 : decode cL_law 570 = .ok (.iaload, 1) := by decide +kernel
theorem dL_law_571 : decode cL_law 571 = .ok (.aload_n 3, 1) := by decide +kernel
theorem dL_law_572 : decode cL_law 572 = .ok (.invokestatic 119, 3) := by decide +kernel
theorem dL_law_575 : decode cL_law 575 = .ok (.istore 5, 2) := by decide +kernel
theorem dL_law_577 : decode cL_law 577 = .ok (.aload_n 2, 1) := by decide +kernel
theorem dL_law_578 : decode cL_law 578 = .ok (.aload_n 0, 1) := by decide +kernel
theorem dL_law_579 : decode cL_law 579 = .ok (.iload 4, 2) := by decide +kernel
theorem dL_law_581 : decode cL_law 581 = .ok (.iconst 1, 1) := by decide +kernel
theorem dL_law_582 : decode cL_law 582 = .ok (.iadd, 1) := by decide +kernel
theorem dL_law_583 : decode cL_law 583 = .ok (.iaload, 1) := by decide +kernel
theorem dL_law_584 : decode cL_law 584 = .ok (.aload_n 0, 1) := by decide +kernel
theorem dL_law_585 : decode cL_law 585 = .ok (.iload 4, 2) := by decide +kernel
theorem dL_law_587 : decode cL_law 587 = .ok (.iconst 2, 1) := by decide +kernel
theorem dL_law_588 : decode cL_law 588 = .ok (.iadd, 1) := by decide +kernel
theorem dL_law_589 : decode cL_law 589 = .ok (.iaload, 1) := by decide +kernel
theorem dL_law_590 : decode cL_law 590 = .ok (.ifCond .eq 7, 3) := by decide +kernel
theorem dL_law_593 : decode cL_law 593 = .ok (.iconst 1, 1) := by decide +kernel
theorem dL_law_594 : decode cL_law 594 = .ok (.goto 4, 3) := by decide +kernel
theorem dL_law_597 : decode cL_law 597 = .ok (.iconst 0, 1) := by decide +kernel
theorem dL_law_598 : decode cL_law 598 = .ok (.aload_n 0, 1) := by decide +kernel
theorem dL_law_599 : decode cL_law 599 = .ok (.iload 4, 2) := by decide +kernel
theorem dL_law_601 : decode cL_law 601 = .ok (.iconst 3, 1) := by decide +kernel
theorem dL_law_602 : decode cL_law 602 = .ok (.iadd, 1) := by decide +kernel
theorem dL_law_603 : decode cL_law 603 = .ok (.iaload, 1) := by decide +kernel
theorem dL_law_604 : decode cL_law 604 = .ok (.invokevirtual 122, 3) := by decide +kernel
theorem dL_law_607 : decode cL_law 607 = .ok (.istore 6, 2) := by decide +kernel
theorem dL_law_609 : decode cL_law 609 = .ok (.aload_n 2, 1) := by decide +kernel
theorem dL_law_610 : decode cL_law 610 = .ok (.invokevirtual 96, 3) := by decide +kernel
theorem dL_law_613 : decode cL_law 613 = .ok (.iload 5, 2) := by decide +kernel
theorem dL_law_615 : decode cL_law 615 = .ok (.if_icmp .eq 5, 3) := by decide +kernel
theorem dL_law_618 : decode cL_law 618 = .ok (.iconst 0, 1) := by decide +kernel
theorem dL_law_619 : decode cL_law 619 = .ok (.ireturn, 1) := by decide +kernel
theorem dL_law_620 : decode cL_law 620 = .ok (.iload 5, 2) := by decide +kernel
theorem dL_law_622 : decode cL_law 622 = .ok (.ifCond .ne 15, 3) := by decide +kernel
theorem dL_law_625 : decode cL_law 625 = .ok (.aload_n 3, 1) := by decide +kernel
theorem dL_law_626 : decode cL_law 626 = .ok (.iconst 0, 1) := by decide +kernel
theorem dL_law_627 : decode cL_law 627 = .ok (.laload, 1) := by decide +kernel
theorem dL_law_628 : decode cL_law 628 = .ok (.iload 6, 2) := by decide +kernel
theorem dL_law_630 : decode cL_law 630 = .ok (.i2l, 1) := by decide +kernel
theorem dL_law_631 : decode cL_law 631 = .ok (.lcmp, 1) := by decide +kernel
theorem dL_law_632 : decode cL_law 632 = .ok (.ifCond .eq 5, 3) := by decide +kernel
theorem dL_law_635 : decode cL_law 635 = .ok (.iconst 0, 1) := by decide +kernel
theorem dL_law_636 : decode cL_law 636 = .ok (.ireturn, 1) := by decide +kernel
theorem dL_law_637 : decode cL_law 637 = .ok (.goto 696, 3) := by decide +kernel
theorem dL_law_640 : decode cL_law 640 = .ok (.aload_n 1, 1) := by decide +kernel
theorem dL_law_641 : decode cL_law 641 = .ok (.invokevirtual 123, 3) := by decide +kernel
theorem dL_law_644 : decode cL_law 644 = .ok (.aload_n 2, 1) := by decide +kernel
theorem dL_law_645 : decode cL_law 645 = .ok (.invokevirtual 126, 3) := by decide +kernel
theorem dL_law_648 : decode cL_law 648 = .ok (.if_icmp .eq 685, 3) := by decide +kernel
theorem dL_law_651 : decode cL_law 651 = .ok (.iconst 0, 1) := by decide +kernel
theorem dL_law_652 : decode cL_law 652 = .ok (.ireturn, 1) := by decide +kernel
theorem dL_law_653 : decode cL_law 653 = .ok (.aload_n 1, 1) := by decide +kernel
theorem dL_law_654 : decode cL_law 654 = .ok (.aload_n 3, 1) := by decide +kernel
theorem dL_law_655 : decode cL_law 655 = .ok (.invokestatic 127, 3) := by decide +kernel
theorem dL_law_658 : decode cL_law 658 = .ok (.istore 5, 2) := by decide +kernel
theorem dL_law_660 : decode cL_law 660 = .ok (.aload_n 2, 1) := by decide +kernel
theorem dL_law_661 : decode cL_law 661 = .ok (.invokevirtual 129, 3) := by decide +kernel
theorem dL_law_664 : decode cL_law 664 = .ok (.istore 6, 2) := by decide +kernel
theorem dL_law_666 : decode cL_law 666 = .ok (.aload_n 2, 1) := by decide +kernel
theorem dL_law_667 : decode cL_law 667 = .ok (.invokevirtual 96, 3) := by decide +kernel
theorem dL_law_670 : decode cL_law 670 = .ok (.iload 5, 2) := by decide +kernel
theorem dL_law_672 : decode cL_law 672 = .ok (.if_icmp .eq 5, 3) := by decide +kernel
theorem dL_law_675 : decode cL_law 675 = .ok (.iconst 0, 1) := by decide +kernel
theorem dL_law_676 : decode cL_law 676 = .ok (.ireturn, 1) := by decide +kernel
theorem dL_law_677 : decode cL_law 677 = .ok (.iload 5, 2) := by decide +kernel
theorem dL_law_679 : decode cL_law 679 = .ok (.ifCond .ne 15, 3) := by decide +kernel
theorem dL_law_682 : decode cL_law 682 = .ok (.aload_n 3, 1) := by decide +kernel
theorem dL_law_683 : decode cL_law 683 = .ok (.iconst 0, 1) := by decide +kernel
theorem dL_law_684 : decode cL_law 684 = .ok (.laload, 1) := by decide +kernel
theorem dL_law_685 : decode cL_law 685 = .ok (.iload 6, 2) := by decide +kernel
theorem dL_law_687 : decode cL_law 687 = .ok (.i2l, 1) := by decide +kernel
theorem dL_law_688 : decode cL_law 688 = .ok (.lcmp, 1) := by decide +kernel
theorem dL_law_689 : decode cL_law 689 = .ok (.ifCond .eq 5, 3) := by decide +kernel
theorem dL_law_692 : decode cL_law 692 = .ok (.iconst 0, 1) := by decide +kernel
theorem dL_law_693 : decode cL_law 693 = .ok (.ireturn, 1) := by decide +kernel
theorem dL_law_694 : decode cL_law 694 = .ok (.goto 639, 3) := by decide +kernel
theorem dL_law_697 : decode cL_law 697 = .ok (.aload_n 1, 1) := by decide +kernel
theorem dL_law_698 : decode cL_law 698 = .ok (.aload_n 0, 1) := by decide +kernel
theorem dL_law_699 : decode cL_law 699 = .ok (.iload 4, 2) := by decide +kernel
theorem dL_law_701 : decode cL_law 701 = .ok (.iconst 1, 1) := by decide +kernel
theorem dL_law_702 : decode cL_law 702 = .ok (.iadd, 1) := by decide +kernel
theorem dL_law_703 : decode cL_law 703 = .ok (.iaload, 1) := by decide +kernel
theorem dL_law_704 : decode cL_law 704 = .ok (.aload_n 0, 1) := by decide +kernel
theorem dL_law_705 : decode cL_law 705 = .ok (.iload 4, 2) := by decide +kernel
theorem dL_law_707 : decode cL_law 707 = .ok (.iconst 2, 1) := by decide +kernel
theorem dL_law_708 : decode cL_law 708 = .ok (.iadd, 1) := by decide +kernel
theorem dL_law_709 : decode cL_law 709 = .ok (.iaload, 1) := by decide +kernel
theorem dL_law_710 : decode cL_law 710 = .ok (.aload_n 3, 1) := by decide +kernel
theorem dL_law_711 : decode cL_law 711 = .ok (.invokestatic 130, 3) := by decide +kernel
theorem dL_law_714 : decode cL_law 714 = .ok (.istore 5, 2) := by decide +kernel
theorem dL_law_716 : decode cL_law 716 = .ok (.aload_n 2, 1) := by decide +kernel
theorem dL_law_717 : decode cL_law 717 = .ok (.aload_n 0, 1) := by decide +kernel
theorem dL_law_718 : decode cL_law 718 = .ok (.iload 4, 2) := by decide +kernel
theorem dL_law_720 : decode cL_law 720 = .ok (.iconst 1, 1) := by decide +kernel
theorem dL_law_721 : decode cL_law 721 = .ok (.iadd, 1) := by decide +kernel
theorem dL_law_722 : decode cL_law 722 = .ok (.iaload, 1) := by decide +kernel
theorem dL_law_723 : decode cL_law 723 = .ok (.aload_n 0, 1) := by decide +kernel
theorem dL_law_724 : decode cL_law 724 = .ok (.iload 4, 2) := by decide +kernel
theorem dL_law_726 : decode cL_law 726 = .ok (.iconst 2, 1) := by decide +kernel
theorem dL_law_727 : decode cL_law 727 = .ok (.iadd, 1) := by decide +kernel
theorem dL_law_728 : decode cL_law 728 = .ok (.iaload, 1) := by decide +kernel
theorem dL_law_729 : decode cL_law 729 = .ok (.invokevirtual 132, 3) := by decide +kernel
theorem dL_law_732 : decode cL_law 732 = .ok (.istore 6, 2) := by decide +kernel
theorem dL_law_734 : decode cL_law 734 = .ok (.aload_n 2, 1) := by decide +kernel
theorem dL_law_735 : decode cL_law 735 = .ok (.invokevirtual 96, 3) := by decide +kernel
theorem dL_law_738 : decode cL_law 738 = .ok (.iload 5, 2) := by decide +kernel
theorem dL_law_740 : decode cL_law 740 = .ok (.if_icmp .eq 5, 3) := by decide +kernel
theorem dL_law_743 : decode cL_law 743 = .ok (.iconst 0, 1) := by decide +kernel
theorem dL_law_744 : decode cL_law 744 = .ok (.ireturn, 1) := by decide +kernel
theorem dL_law_745 : decode cL_law 745 = .ok (.iload 5, 2) := by decide +kernel
theorem dL_law_747 : decode cL_law 747 = .ok (.ifCond .ne 15, 3) := by decide +kernel
theorem dL_law_750 : decode cL_law 750 = .ok (.aload_n 3, 1) := by decide +kernel
theorem dL_law_751 : decode cL_law 751 = .ok (.iconst 0, 1) := by decide +kernel
theorem dL_law_752 : decode cL_law 752 = .ok (.laload, 1) := by decide +kernel
theorem dL_law_753 : decode cL_law 753 = .ok (.iload 6, 2) := by decide +kernel
theorem dL_law_755 : decode cL_law 755 = .ok (.i2l, 1) := by decide +kernel
theorem dL_law_756 : decode cL_law 756 = .ok (.lcmp, 1) := by decide +kernel
theorem dL_law_757 : decode cL_law 757 = .ok (.ifCond .eq 5, 3) := by decide +kernel
theorem dL_law_760 : decode cL_law 760 = .ok (.iconst 0, 1) := by decide +kernel
theorem dL_law_761 : decode cL_law 761 = .ok (.ireturn, 1) := by decide +kernel
theorem dL_law_762 : decode cL_law 762 = .ok (.goto 571, 3) := by decide +kernel
theorem dL_law_765 : decode cL_law 765 = .ok (.aload_n 1, 1) := by decide +kernel
theorem dL_law_766 : decode cL_law 766 = .ok (.aload_n 0, 1) := by decide +kernel
theorem dL_law_767 : decode cL_law 767 = .ok (.iload 4, 2) := by decide +kernel
theorem dL_law_769 : decode cL_law 769 = .ok (.iconst 1, 1) := by decide +kernel
theorem dL_law_770 : decode cL_law 770 = .ok (.iadd, 1) := by decide +kernel
theorem dL_law_771 : decode cL_law 771 = .ok (.iaload, 1) := by decide +kernel
theorem dL_law_772 : decode cL_law 772 = .ok (.aload_n 0, 1) := by decide +kernel
theorem dL_law_773 : decode cL_law 773 = .ok (.iload 4, 2) := by decide +kernel
theorem dL_law_775 : decode cL_law 775 = .ok (.iconst 2, 1) := by decide +kernel
theorem dL_law_776 : decode cL_law 776 = .ok (.iadd, 1) := by decide +kernel
theorem dL_law_777 : decode cL_law 777 = .ok (.iaload, 1) := by decide +kernel
theorem dL_law_778 : decode cL_law 778 = .ok (.aload_n 3, 1) := by decide +kernel
theorem dL_law_779 : decode cL_law 779 = .ok (.invokestatic 133, 3) := by decide +kernel
theorem dL_law_782 : decode cL_law 782 = .ok (.istore 5, 2) := by decide +kernel
theorem dL_law_784 : decode cL_law 784 = .ok (.aload_n 2, 1) := by decide +kernel
theorem dL_law_785 : decode cL_law 785 = .ok (.aload_n 0, 1) := by decide +kernel
theorem dL_law_786 : decode cL_law 786 = .ok (.iload 4, 2) := by decide +kernel
theorem dL_law_788 : decode cL_law 788 = .ok (.iconst 1, 1) := by decide +kernel
theorem dL_law_789 : decode cL_law 789 = .ok (.iadd, 1) := by decide +kernel
theorem dL_law_790 : decode cL_law 790 = .ok (.iaload, 1) := by decide +kernel
theorem dL_law_791 : decode cL_law 791 = .ok (.aload_n 0, 1) := by decide +kernel
theorem dL_law_792 : decode cL_law 792 = .ok (.iload 4, 2) := by decide +kernel
theorem dL_law_794 : decode cL_law 794 = .ok (.iconst 2, 1) := by decide +kernel
theorem dL_law_795 : decode cL_law 795 = .ok (.iadd, 1) := by decide +kernel
theorem dL_law_796 : decode cL_law 796 = .ok (.iaload, 1) := by decide +kernel
theorem dL_law_797 : decode cL_law 797 = .ok (.invokevirtual 135, 3) := by decide +kernel
theorem dL_law_800 : decode cL_law 800 = .ok (.istore 6, 2) := by decide +kernel
theorem dL_law_802 : decode cL_law 802 = .ok (.aload_n 2, 1) := by decide +kernel
theorem dL_law_803 : decode cL_law 803 = .ok (.invokevirtual 96, 3) := by decide +kernel
theorem dL_law_806 : decode cL_law 806 = .ok (.iload 5, 2) := by decide +kernel
theorem dL_law_808 : decode cL_law 808 = .ok (.if_icmp .eq 5, 3) := by decide +kernel
theorem dL_law_811 : decode cL_law 811 = .ok (.iconst 0, 1) := by decide +kernel
theorem dL_law_812 : decode cL_law 812 = .ok (.ireturn, 1) := by decide +kernel
theorem dL_law_813 : decode cL_law 813 = .ok (.iload 5, 2) := by decide +kernel
theorem dL_law_815 : decode cL_law 815 = .ok (.ifCond .ne 15, 3) := by decide +kernel
theorem dL_law_818 : decode cL_law 818 = .ok (.aload_n 3, 1) := by decide +kernel
theorem dL_law_819 : decode cL_law 819 = .ok (.iconst 0, 1) := by decide +kernel
theorem dL_law_820 : decode cL_law 820 = .ok (.laload, 1) := by decide +kernel
theorem dL_law_821 : decode cL_law 821 = .ok (.iload 6, 2) := by decide +kernel
theorem dL_law_823 : decode cL_law 823 = .ok (.i2l, 1) := by decide +kernel
theorem dL_law_824 : decode cL_law 824 = .ok (.lcmp, 1) := by decide +kernel
theorem dL_law_825 : decode cL_law 825 = .ok (.ifCond .eq 5, 3) := by decide +kernel
theorem dL_law_828 : decode cL_law 828 = .ok (.iconst 0, 1) := by decide +kernel
theorem dL_law_829 : decode cL_law 829 = .ok (.ireturn, 1) := by decide +kernel
theorem dL_law_830 : decode cL_law 830 = .ok (.goto 503, 3) := by decide +kernel
theorem dL_law_833 : decode cL_law 833 = .ok (.aload_n 1, 1) := by decide +kernel
theorem dL_law_834 : decode cL_law 834 = .ok (.aload_n 0, 1) := by decide +kernel
theorem dL_law_835 : decode cL_law 835 = .ok (.iload 4, 2) := by decide +kernel
theorem dL_law_837 : decode cL_law 837 = .ok (.iconst 1, 1) := by decide +kernel
theorem dL_law_838 : decode cL_law 838 = .ok (.iadd, 1) := by decide +kernel
theorem dL_law_839 : decode cL_law 839 = .ok (.iaload, 1) := by decide +kernel
theorem dL_law_840 : decode cL_law 840 = .ok (.aload_n 0, 1) := by decide +kernel
theorem dL_law_841 : decode cL_law 841 = .ok (.iload 4, 2) := by decide +kernel
theorem dL_law_843 : decode cL_law 843 = .ok (.iconst 2, 1) := by decide +kernel
theorem dL_law_844 : decode cL_law 844 = .ok (.iadd, 1) := by decide +kernel
theorem dL_law_845 : decode cL_law 845 = .ok (.iaload, 1) := by decide +kernel
theorem dL_law_846 : decode cL_law 846 = .ok (.aload_n 3, 1) := by decide +kernel
theorem dL_law_847 : decode cL_law 847 = .ok (.invokestatic 136, 3) := by decide +kernel
theorem dL_law_850 : decode cL_law 850 = .ok (.istore 5, 2) := by decide +kernel
theorem dL_law_852 : decode cL_law 852 = .ok (.aload_n 2, 1) := by decide +kernel
theorem dL_law_853 : decode cL_law 853 = .ok (.aload_n 0, 1) := by decide +kernel
theorem dL_law_854 : decode cL_law 854 = .ok (.iload 4, 2) := by decide +kernel
theorem dL_law_856 : decode cL_law 856 = .ok (.iconst 1, 1) := by decide +kernel
theorem dL_law_857 : decode cL_law 857 = .ok (.iadd, 1) := by decide +kernel
theorem dL_law_858 : decode cL_law 858 = .ok (.iaload, 1) := by decide +kernel
theorem dL_law_859 : decode cL_law 859 = .ok (.aload_n 0, 1) := by decide +kernel
theorem dL_law_860 : decode cL_law 860 = .ok (.iload 4, 2) := by decide +kernel
theorem dL_law_862 : decode cL_law 862 = .ok (.iconst 2, 1) := by decide +kernel
theorem dL_law_863 : decode cL_law 863 = .ok (.iadd, 1) := by decide +kernel
theorem dL_law_864 : decode cL_law 864 = .ok (.iaload, 1) := by decide +kernel
theorem dL_law_865 : decode cL_law 865 = .ok (.invokevirtual 138, 3) := by decide +kernel
theorem dL_law_868 : decode cL_law 868 = .ok (.istore 6, 2) := by decide +kernel
theorem dL_law_870 : decode cL_law 870 = .ok (.aload_n 2, 1) := by decide +kernel
theorem dL_law_871 : decode cL_law 871 = .ok (.invokevirtual 96, 3) := by decide +kernel
theorem dL_law_874 : decode cL_law 874 = .ok (.iload 5, 2) := by decide +kernel
theorem dL_law_876 : decode cL_law 876 = .ok (.if_icmp .eq 5, 3) := by decide +kernel
theorem dL_law_879 : decode cL_law 879 = .ok (.iconst 0, 1) := by decide +kernel
theorem dL_law_880 : decode cL_law 880 = .ok (.ireturn, 1) := by decide +kernel
theorem dL_law_881 : decode cL_law 881 = .ok (.iload 5, 2) := by decide +kernel
theorem dL_law_883 : decode cL_law 883 = .ok (.ifCond .ne 15, 3) := by decide +kernel
theorem dL_law_886 : decode cL_law 886 = .ok (.aload_n 3, 1) := by decide +kernel
theorem dL_law_887 : decode cL_law 887 = .ok (.iconst 0, 1) := by decide +kernel
theorem dL_law_888 : decode cL_law 888 = .ok (.laload, 1) := by decide +kernel
theorem dL_law_889 : decode cL_law 889 = .ok (.iload 6, 2) := by decide +kernel
theorem dL_law_891 : decode cL_law 891 = .ok (.i2l, 1) := by decide +kernel
