theorem dX8_init_0 : decode cX8_init 0 = .ok (.aload_n 0, 1) := by decide +kernel
theorem dX8_init_1 : decode cX8_init 1 = .ok (.invokespecial 1, 3) := by decide +kernel
theorem dX8_init_4 : decode cX8_init 4 = .ok (.aload_n 0, 1) := by decide +kernel
theorem dX8_init_5 : decode cX8_init 5 = .ok (.sipush 240, 3) := by decide +kernel
theorem dX8_init_8 : decode cX8_init 8 = .ok (.newarray .int, 2) := by decide +kernel
theorem dX8_init_10 : decode cX8_init 10 = .ok (.putfield 7, 3) := by decide +kernel
theorem dX8_init_13 : decode cX8_init 13 = .ok (.aload_n 0, 1) := by decide +kernel
theorem dX8_init_14 : decode cX8_init 14 = .ok (.sipush 1920, 3) := by decide +kernel
theorem dX8_init_17 : decode cX8_init 17 = .ok (.newarray .int, 2) := by decide +kernel
theorem dX8_init_19 : decode cX8_init 19 = .ok (.putfield 13, 3) := by decide +kernel
theorem dX8_init_22 : decode cX8_init 22 = .ok (.aload_n 0, 1) := by decide +kernel
theorem dX8_init_23 : decode cX8_init 23 = .ok (.sipush 1920, 3) := by decide +kernel
theorem dX8_init_26 : decode cX8_init 26 = .ok (.newarray .int, 2) := by decide +kernel
theorem dX8_init_28 : decode cX8_init 28 = .ok (.putfield 16, 3) := by decide +kernel
theorem dX8_init_31 : decode cX8_init 31 = .ok (.aload_n 0, 1) := by decide +kernel
theorem dX8_init_32 : decode cX8_init 32 = .ok (.sipush 1920, 3) := by decide +kernel
theorem dX8_init_35 : decode cX8_init 35 = .ok (.newarray .int, 2) := by decide +kernel
theorem dX8_init_37 : decode cX8_init 37 = .ok (.putfield 19, 3) := by decide +kernel
theorem dX8_init_40 : decode cX8_init 40 = .ok (.aload_n 0, 1) := by decide +kernel
theorem dX8_init_41 : decode cX8_init 41 = .ok (.sipush 1920, 3) := by decide +kernel
theorem dX8_init_44 : decode cX8_init 44 = .ok (.newarray .int, 2) := by decide +kernel
theorem dX8_init_46 : decode cX8_init 46 = .ok (.putfield 22, 3) := by decide +kernel
theorem dX8_init_49 : decode cX8_init 49 = .ok (.aload_n 0, 1) := by decide +kernel
theorem dX8_init_50 : decode cX8_init 50 = .ok (.sipush 200, 3) := by decide +kernel
theorem dX8_init_53 : decode cX8_init 53 = .ok (.newarray .boolean, 2) := by decide +kernel
theorem dX8_init_55 : decode cX8_init 55 = .ok (.putfield 25, 3) := by decide +kernel
theorem dX8_init_58 : decode cX8_init 58 = .ok (.aload_n 0, 1) := by decide +kernel
theorem dX8_init_59 : decode cX8_init 59 = .ok (.sipush 200, 3) := by decide +kernel
theorem dX8_init_62 : decode cX8_init 62 = .ok (.newarray .int, 2) := by decide +kernel
theorem dX8_init_64 : decode cX8_init 64 = .ok (.putfield 29, 3) := by decide +kernel
theorem dX8_init_67 : decode cX8_init 67 = .ok (.aload_n 0, 1) := by decide +kernel
theorem dX8_init_68 : decode cX8_init 68 = .ok (.bipush 6, 2) := by decide +kernel
theorem dX8_init_70 : decode cX8_init 70 = .ok (.newarray .int, 2) := by decide +kernel
theorem dX8_init_72 : decode cX8_init 72 = .ok (.putfield 32, 3) := by decide +kernel
theorem dX8_init_75 : decode cX8_init 75 = .ok (.aload_n 0, 1) := by decide +kernel
theorem dX8_init_76 : decode cX8_init 76 = .ok (.bipush 6, 2) := by decide +kernel
theorem dX8_init_78 : decode cX8_init 78 = .ok (.newarray .int, 2) := by decide +kernel
theorem dX8_init_80 : decode cX8_init 80 = .ok (.putfield 35, 3) := by decide +kernel
theorem dX8_init_83 : decode cX8_init 83 = .ok (.aload_n 0, 1) := by decide +kernel
theorem dX8_init_84 : decode cX8_init 84 = .ok (.bipush 8, 2) := by decide +kernel
theorem dX8_init_86 : decode cX8_init 86 = .ok (.putfield 38, 3) := by decide +kernel
theorem dX8_init_89 : decode cX8_init 89 = .ok (.aload_n 0, 1) := by decide +kernel
theorem dX8_init_90 : decode cX8_init 90 = .ok (.bipush 7, 2) := by decide +kernel
theorem dX8_init_92 : decode cX8_init 92 = .ok (.newarray .boolean, 2) := by decide +kernel
theorem dX8_init_94 : decode cX8_init 94 = .ok (.putfield 42, 3) := by decide +kernel
theorem dX8_init_97 : decode cX8_init 97 = .ok (.aload_n 0, 1) := by decide +kernel
theorem dX8_init_98 : decode cX8_init 98 = .ok (.bipush 7, 2) := by decide +kernel
theorem dX8_init_100 : decode cX8_init 100 = .ok (.newarray .int, 2) := by decide +kernel
theorem dX8_init_102 : decode cX8_init 102 = .ok (.putfield 45, 3) := by decide +kernel
theorem dX8_init_105 : decode cX8_init 105 = .ok (.aload_n 0, 1) := by decide +kernel
theorem dX8_init_106 : decode cX8_init 106 = .ok (.sipush 280, 3) := by decide +kernel
theorem dX8_init_109 : decode cX8_init 109 = .ok (.newarray .int, 2) := by decide +kernel
theorem dX8_init_111 : decode cX8_init 111 = .ok (.putfield 48, 3) := by decide +kernel
theorem dX8_init_114 : decode cX8_init 114 = .ok (.aload_n 0, 1) := by decide +kernel
theorem dX8_init_115 : decode cX8_init 115 = .ok (.sipush 280, 3) := by decide +kernel
theorem dX8_init_118 : decode cX8_init 118 = .ok (.newarray .int, 2) := by decide +kernel
theorem dX8_init_120 : decode cX8_init 120 = .ok (.putfield 51, 3) := by decide +kernel
theorem dX8_init_123 : decode cX8_init 123 = .ok (.aload_n 0, 1) := by decide +kernel
theorem dX8_init_124 : decode cX8_init 124 = .ok (.sipush 280, 3) := by decide +kernel
theorem dX8_init_127 : decode cX8_init 127 = .ok (.newarray .int, 2) := by decide +kernel
theorem dX8_init_129 : decode cX8_init 129 = .ok (.putfield 54, 3) := by decide +kernel
theorem dX8_init_132 : decode cX8_init 132 = .ok (.aload_n 0, 1) := by decide +kernel
theorem dX8_init_133 : decode cX8_init 133 = .ok (.sipush 280, 3) := by decide +kernel
theorem dX8_init_136 : decode cX8_init 136 = .ok (.newarray .int, 2) := by decide +kernel
theorem dX8_init_138 : decode cX8_init 138 = .ok (.putfield 57, 3) := by decide +kernel
theorem dX8_init_141 : decode cX8_init 141 = .ok (.aload_n 0, 1) := by decide +kernel
theorem dX8_init_142 : decode cX8_init 142 = .ok (.sipush 280, 3) := by decide +kernel
theorem dX8_init_145 : decode cX8_init 145 = .ok (.newarray .int, 2) := by decide +kernel
theorem dX8_init_147 : decode cX8_init 147 = .ok (.putfield 60, 3) := by decide +kernel
theorem dX8_init_150 : decode cX8_init 150 = .ok (.aload_n 0, 1) := by decide +kernel
theorem dX8_init_151 : decode cX8_init 151 = .ok (.sipush 280, 3) := by decide +kernel
theorem dX8_init_154 : decode cX8_init 154 = .ok (.newarray .int, 2) := by decide +kernel
theorem dX8_init_156 : decode cX8_init 156 = .ok (.putfield 63, 3) := by decide +kernel
theorem dX8_init_159 : decode cX8_init 159 = .ok (.aload_n 0, 1) := by decide +kernel
theorem dX8_init_160 : decode cX8_init 160 = .ok (.sipush 280, 3) := by decide +kernel
theorem dX8_init_163 : decode cX8_init 163 = .ok (.newarray .int, 2) := by decide +kernel
theorem dX8_init_165 : decode cX8_init 165 = .ok (.putfield 66, 3) := by decide +kernel
theorem dX8_init_168 : decode cX8_init 168 = .ok (.aload_n 0, 1) := by decide +kernel
theorem dX8_init_169 : decode cX8_init 169 = .ok (.sipush 8960, 3) := by decide +kernel
theorem dX8_init_172 : decode cX8_init 172 = .ok (.newarray .int, 2) := by decide +kernel
theorem dX8_init_174 : decode cX8_init 174 = .ok (.putfield 69, 3) := by decide +kernel
theorem dX8_init_177 : decode cX8_init 177 = .ok (.aload_n 0, 1) := by decide +kernel
theorem dX8_init_178 : decode cX8_init 178 = .ok (.bipush 24, 2) := by decide +kernel
theorem dX8_init_180 : decode cX8_init 180 = .ok (.putfield 72, 3) := by decide +kernel
theorem dX8_init_183 : decode cX8_init 183 = .ok (.aload_n 0, 1) := by decide +kernel
theorem dX8_init_184 : decode cX8_init 184 = .ok (.iconst 4, 1) := by decide +kernel
theorem dX8_init_185 : decode cX8_init 185 = .ok (.putfield 75, 3) := by decide +kernel
theorem dX8_init_188 : decode cX8_init 188 = .ok (.aload_n 0, 1) := by decide +kernel
theorem dX8_init_189 : decode cX8_init 189 = .ok (.bipush 41, 2) := by decide +kernel
theorem dX8_init_191 : decode cX8_init 191 = .ok (.newarray .int, 2) := by decide +kernel
theorem dX8_init_193 : decode cX8_init 193 = .ok (.putfield 78, 3) := by decide +kernel
theorem dX8_init_196 : decode cX8_init 196 = .ok (.aload_n 0, 1) := by decide +kernel
theorem dX8_init_197 : decode cX8_init 197 = .ok (.bipush 40, 2) := by decide +kernel
theorem dX8_init_199 : decode cX8_init 199 = .ok (.newarray .int, 2) := by decide +kernel
theorem dX8_init_201 : decode cX8_init 201 = .ok (.putfield 81, 3) := by decide +kernel
theorem dX8_init_204 : decode cX8_init 204 = .ok (.aload_n 0, 1) := by decide +kernel
theorem dX8_init_205 : decode cX8_init 205 = .ok (.bipush 40, 2) := by decide +kernel
theorem dX8_init_207 : decode cX8_init 207 = .ok (.newarray .int, 2) := by decide +kernel
theorem dX8_init_209 : decode cX8_init 209 = .ok (.putfield 84, 3) := by decide +kernel
theorem dX8_init_212 : decode cX8_init 212 = .ok (.aload_n 0, 1) := by decide +kernel
theorem dX8_init_213 : decode cX8_init 213 = .ok (.bipush 40, 2) := by decide +kernel
theorem dX8_init_215 : decode cX8_init 215 = .ok (.newarray .int, 2) := by decide +kernel
theorem dX8_init_217 : decode cX8_init 217 = .ok (.putfield 87, 3) := by decide +kernel
theorem dX8_init_220 : decode cX8_init 220 = .ok (.aload_n 0, 1) := by decide +kernel
theorem dX8_init_221 : decode cX8_init 221 = .ok (.bipush 40, 2) := by decide +kernel
theorem dX8_init_223 : decode cX8_init 223 = .ok (.newarray .boolean, 2) := by decide +kernel
theorem dX8_init_225 : decode cX8_init 225 = .ok (.putfield 90, 3) := by decide +kernel
theorem dX8_init_228 : decode cX8_init 228 = .ok (.aload_n 0, 1) := by decide +kernel
theorem dX8_init_229 : decode cX8_init 229 = .ok (.bipush 40, 2) := by decide +kernel
theorem dX8_init_231 : decode cX8_init 231 = .ok (.newarray .int, 2) := by decide +kernel
theorem dX8_init_233 : decode cX8_init 233 = .ok (.putfield 93, 3) := by decide +kernel
theorem dX8_init_236 : decode cX8_init 236 = .ok (.aload_n 0, 1) := by decide +kernel
theorem dX8_init_237 : decode cX8_init 237 = .ok (.bipush 40, 2) := by decide +kernel
theorem dX8_init_239 : decode cX8_init 239 = .ok (.newarray .int, 2) := by decide +kernel
theorem dX8_init_241 : decode cX8_init 241 = .ok (.putfield 96, 3) := by decide +kernel
theorem dX8_init_244 : decode cX8_init 244 = .ok (.aload_n 0, 1) := by decide +kernel
theorem dX8_init_245 : decode cX8_init 245 = .ok (.bipush 40, 2) := by decide +kernel
theorem dX8_init_247 : decode cX8_init 247 = .ok (.newarray .int, 2) := by decide +kernel
theorem dX8_init_249 : decode cX8_init 249 = .ok (.putfield 99, 3) := by decide +kernel
theorem dX8_init_252 : decode cX8_init 252 = .ok (.aload_n 0, 1) := by decide +kernel
theorem dX8_init_253 : decode cX8_init 253 = .ok (.bipush 40, 2) := by decide +kernel
theorem dX8_init_255 : decode cX8_init 255 = .ok (.newarray .boolean, 2) := by decide +kernel
theorem dX8_init_257 : decode cX8_init 257 = .ok (.putfield 102, 3) := by decide +kernel
theorem dX8_init_260 : decode cX8_init 260 = .ok (.return_, 1) := by decide +kernel
theorem dX8_in_0 : decode cX8_in 0 = .ok (.iload_n 0, 1) := by decide +kernel
theorem dX8_in_1 : decode cX8_in 1 = .ok (.iload_n 1, 1) := by decide +kernel
theorem dX8_in_2 : decode cX8_in 2 = .ok (.if_icmp .lt 12, 3) := by decide +kernel
theorem dX8_in_5 : decode cX8_in 5 = .ok (.iload_n 0, 1) := by decide +kernel
theorem dX8_in_6 : decode cX8_in 6 = .ok (.iload_n 2, 1) := by decide +kernel
theorem dX8_in_7 : decode cX8_in 7 = .ok (.if_icmp .gt 7, 3) := by decide +kernel
theorem dX8_in_10 : decode cX8_in 10 = .ok (.iconst 1, 1) := by decide +kernel
theorem dX8_in_11 : decode cX8_in 11 = .ok (.goto 4, 3) := by decide +kernel
theorem dX8_in_14 : decode cX8_in 14 = .ok (.iconst 0, 1) := by decide +kernel
theorem dX8_in_15 : decode cX8_in 15 = .ok (.ireturn, 1) := by decide +kernel
set_option maxRecDepth 20000 in
theorem ggX8_isVoice_X8_in : GoodIn wsX8_isVoice wsX8_in := goodIn_r _ [5] (by decide +kernel) (by decide +kernel)
set_option maxRecDepth 20000 in
theorem gX8_isVoice_X8_in : GoodIn wsX8_isVoice (va_wsS RX8 108 yX8_in wsX8_in) := goodIn_app (goodIn_of _ (by decide +kernel)) ggX8_isVoice_X8_in
theorem dX8_isVoice_0 : decode cX8_isVoice 0 = .ok (.iload_n 1, 1) := by decide +kernel
theorem dX8_isVoice_1 : decode cX8_isVoice 1 = .ok (.iconst 0, 1) := by decide +kernel
theorem dX8_isVoice_2 : decode cX8_isVoice 2 = .ok (.aload_n 0, 1) := by decide +kernel
theorem dX8_isVoice_3 : decode cX8_isVoice 3 = .ok (.getfield 105, 3) := by decide +kernel
theorem dX8_isVoice_6 : decode cX8_isVoice 6 = .ok (.iconst 1, 1) := by decide +kernel
theorem dX8_isVoice_7 : decode cX8_isVoice 7 = .ok (.isub, 1) := by decide +kernel
theorem dX8_isVoice_8 : decode cX8_isVoice 8 = .ok (.invokestatic 108, 3) := by decide +kernel
theorem dX8_isVoice_11 : decode cX8_isVoice 11 = .ok (.ireturn, 1) := by decide +kernel
set_option maxRecDepth 20000 in
theorem ggX8_isBar_X8_in : GoodIn wsX8_isBar wsX8_in := goodIn_r _ [5] (by decide +kernel) (by decide +kernel)
set_option maxRecDepth 20000 in
theorem gX8_isBar_X8_in : GoodIn wsX8_isBar (va_wsS RX8 108 yX8_in wsX8_in) := goodIn_app (goodIn_of _ (by decide +kernel)) ggX8_isBar_X8_in
theorem dX8_isBar_0 : decode cX8_isBar 0 = .ok (.iload_n 1, 1) := by decide +kernel
theorem dX8_isBar_1 : decode cX8_isBar 1 = .ok (.iconst 0, 1) := by decide +kernel
theorem dX8_isBar_2 : decode cX8_isBar 2 = .ok (.aload_n 0, 1) := by decide +kernel
theorem dX8_isBar_3 : decode cX8_isBar 3 = .ok (.getfield 112, 3) := by decide +kernel
theorem dX8_isBar_6 : decode cX8_isBar 6 = .ok (.iconst 1, 1) := by decide +kernel
theorem dX8_isBar_7 : decode cX8_isBar 7 = .ok (.isub, 1) := by decide +kernel
theorem dX8_isBar_8 : decode cX8_isBar 8 = .ok (.invokestatic 108, 3) := by decide +kernel
theorem dX8_isBar_11 : decode cX8_isBar 11 = .ok (.ireturn, 1) := by decide +kernel
theorem dX8_voice_0 : decode cX8_voice 0 = .ok (.aload_n 0, 1) := by decide +kernel
theorem dX8_voice_1 : decode cX8_voice 1 = .ok (.getfield 105, 3) := by decide +kernel
theorem dX8_voice_4 : decode cX8_voice 4 = .ok (.bipush 6, 2) := by decide +kernel
theorem dX8_voice_6 : decode cX8_voice 6 = .ok (.if_icmp .ne 6, 3) := by decide +kernel
theorem dX8_voice_9 : decode cX8_voice 9 = .ok (.bipush (-104), 2) := by decide +kernel
theorem dX8_voice_11 : decode cX8_voice 11 = .ok (.ireturn, 1) := by decide +kernel
theorem dX8_voice_12 : decode cX8_voice 12 = .ok (.aload_n 0, 1) := by decide +kernel
theorem dX8_voice_13 : decode cX8_voice 13 = .ok (.dup, 1) := by decide +kernel
theorem dX8_voice_14 : decode cX8_voice 14 = .ok (.getfield 105, 3) := by decide +kernel
theorem dX8_voice_17 : decode cX8_voice 17 = .ok (.iconst 1, 1) := by decide +kernel
theorem dX8_voice_18 : decode cX8_voice 18 = .ok (.iadd, 1) := by decide +kernel
theorem dX8_voice_19 : decode cX8_voice 19 = .ok (.putfield 105, 3) := by decide +kernel
theorem dX8_voice_22 : decode cX8_voice 22 = .ok (.aload_n 0, 1) := by decide +kernel
theorem dX8_voice_23 : decode cX8_voice 23 = .ok (.getfield 105, 3) := by decide +kernel
theorem dX8_voice_26 : decode cX8_voice 26 = .ok (.iconst 1, 1) := by decide +kernel
theorem dX8_voice_27 : decode cX8_voice 27 = .ok (.isub, 1) := by decide +kernel
theorem dX8_voice_28 : decode cX8_voice 28 = .ok (.ireturn, 1) := by decide +kernel
set_option maxRecDepth 20000 in
theorem ggX8_bars_X8_in : GoodIn wsX8_bars wsX8_in := goodIn_r _ [7] (by decide +kernel) (by decide +kernel)
set_option maxRecDepth 20000 in
theorem gX8_bars_X8_in : GoodIn wsX8_bars (va_wsS RX8 108 yX8_in wsX8_in) := goodIn_app (goodIn_of _ (by decide +kernel)) ggX8_bars_X8_in
theorem dX8_bars_0 : decode cX8_bars 0 = .ok (.iload_n 1, 1) := by decide +kernel
theorem dX8_bars_1 : decode cX8_bars 1 = .ok (.iconst 0, 1) := by decide +kernel
theorem dX8_bars_2 : decode cX8_bars 2 = .ok (.bipush 40, 2) := by decide +kernel
theorem dX8_bars_4 : decode cX8_bars 4 = .ok (.invokestatic 108, 3) := by decide +kernel
theorem dX8_bars_7 : decode cX8_bars 7 = .ok (.ifCond .ne 6, 3) := by decide +kernel
theorem dX8_bars_10 : decode cX8_bars 10 = .ok (.bipush (-102), 2) := by decide +kernel
theorem dX8_bars_12 : decode cX8_bars 12 = .ok (.ireturn, 1) := by decide +kernel
theorem dX8_bars_13 : decode cX8_bars 13 = .ok (.iload_n 1, 1) := by decide +kernel
theorem dX8_bars_14 : decode cX8_bars 14 = .ok (.istore_n 2, 1) := by decide +kernel
theorem dX8_bars_15 : decode cX8_bars 15 = .ok (.iload_n 2, 1) := by decide +kernel
theorem dX8_bars_16 : decode cX8_bars 16 = .ok (.aload_n 0, 1) := by decide +kernel
theorem dX8_bars_17 : decode cX8_bars 17 = .ok (.getfield 112, 3) := by decide +kernel
theorem dX8_bars_20 : decode cX8_bars 20 = .ok (.if_icmp .ge 59, 3) := by decide +kernel
theorem dX8_bars_23 : decode cX8_bars 23 = .ok (.iconst 0, 1) := by decide +kernel
theorem dX8_bars_24 : decode cX8_bars 24 = .ok (.istore_n 3, 1) := by decide +kernel
theorem dX8_bars_25 : decode cX8_bars 25 = .ok (.iload_n 3, 1) := by decide +kernel
theorem dX8_bars_26 : decode cX8_bars 26 = .ok (.bipush 6, 2) := by decide +kernel
theorem dX8_bars_28 : decode cX8_bars 28 = .ok (.if_icmp .ge 21, 3) := by decide +kernel
theorem dX8_bars_31 : decode cX8_bars 31 = .ok (.aload_n 0, 1) := by decide +kernel
theorem dX8_bars_32 : decode cX8_bars 32 = .ok (.getfield 7, 3) := by decide +kernel
theorem dX8_bars_35 : decode cX8_bars 35 = .ok (.bipush 40, 2) := by decide +kernel
theorem dX8_bars_37 : decode cX8_bars 37 = .ok (.iload_n 3, 1) := by decide +kernel
theorem dX8_bars_38 : decode cX8_bars 38 = .ok (.imul, 1) := by decide +kernel
theorem dX8_bars_39 : decode cX8_bars 39 = .ok (.iload_n 2, 1) := by decide +kernel
theorem dX8_bars_40 : decode cX8_bars 40 = .ok (.iadd, 1) := by decide +kernel
theorem dX8_bars_41 : decode cX8_bars 41 = .ok (.iconst 0, 1) := by decide +kernel
theorem dX8_bars_42 : decode cX8_bars 42 = .ok (.iastore, 1) := by decide +kernel
theorem dX8_bars_43 : decode cX8_bars 43 = .ok (.iinc 3 1, 3) := by decide +kernel
theorem dX8_bars_46 : decode cX8_bars 46 = .ok (.goto (-21), 3) := by decide +kernel
theorem dX8_bars_49 : decode cX8_bars 49 = .ok (.iconst 0, 1) := by decide +kernel
theorem dX8_bars_50 : decode cX8_bars 50 = .ok (.istore_n 3, 1) := by decide +kernel
theorem dX8_bars_51 : decode cX8_bars 51 = .ok (.iload_n 3, 1) := by decide +kernel
theorem dX8_bars_52 : decode cX8_bars 52 = .ok (.iconst 5, 1) := by decide +kernel
theorem dX8_bars_53 : decode cX8_bars 53 = .ok (.if_icmp .ge 20, 3) := by decide +kernel
theorem dX8_bars_56 : decode cX8_bars 56 = .ok (.aload_n 0, 1) := by decide +kernel
theorem dX8_bars_57 : decode cX8_bars 57 = .ok (.getfield 25, 3) := by decide +kernel
theorem dX8_bars_60 : decode cX8_bars 60 = .ok (.iconst 5, 1) := by decide +kernel
theorem dX8_bars_61 : decode cX8_bars 61 = .ok (.iload_n 2, 1) := by decide +kernel
theorem dX8_bars_62 : decode cX8_bars 62 = .ok (.imul, 1) := by decide +kernel
theorem dX8_bars_63 : decode cX8_bars 63 = .ok (.iload_n 3, 1) := by decide +kernel
theorem dX8_bars_64 : decode cX8_bars 64 = .ok (.iadd, 1) := by decide +kernel
theorem dX8_bars_65 : decode cX8_bars 65 = .ok (.iconst 0, 1) := by decide +kernel
theorem dX8_bars_66 : decode cX8_bars 66 = .ok (.bastore, 1) := by decide +kernel
theorem dX8_bars_67 : decode cX8_bars 67 = .ok (.iinc 3 1, 3) := by decide +kernel
theorem dX8_bars_70 : decode cX8_bars 70 = .ok (.goto (-19), 3) := by decide +kernel
theorem dX8_bars_73 : decode cX8_bars 73 = .ok (.iinc 2 1, 3) := by decide +kernel
theorem dX8_bars_76 : decode cX8_bars 76 = .ok (.goto (-61), 3) := by decide +kernel
theorem dX8_bars_79 : decode cX8_bars 79 = .ok (.aload_n 0, 1) := by decide +kernel
theorem dX8_bars_80 : decode cX8_bars 80 = .ok (.getfield 112, 3) := by decide +kernel
theorem dX8_bars_83 : decode cX8_bars 83 = .ok (.istore_n 2, 1) := by decide +kernel
theorem dX8_bars_84 : decode cX8_bars 84 = .ok (.aload_n 0, 1) := by decide +kernel
theorem dX8_bars_85 : decode cX8_bars 85 = .ok (.iload_n 1, 1) := by decide +kernel
theorem dX8_bars_86 : decode cX8_bars 86 = .ok (.putfield 112, 3) := by decide +kernel
theorem dX8_bars_89 : decode cX8_bars 89 = .ok (.iload_n 2, 1) := by decide +kernel
theorem dX8_bars_90 : decode cX8_bars 90 = .ok (.ireturn, 1) := by decide +kernel
theorem dX8_floorMod_0 : decode cX8_floorMod 0 = .ok (.iload_n 0, 1) := by decide +kernel
theorem dX8_floorMod_1 : decode cX8_floorMod 1 = .ok (.iload_n 1, 1) := by decide +kernel
theorem dX8_floorMod_2 : decode cX8_floorMod 2 = .ok (.irem, 1) := by decide +kernel
theorem dX8_floorMod_3 : decode cX8_floorMod 3 = .ok (.istore_n 2, 1) := by decide +kernel
theorem dX8_floorMod_4 : decode cX8_floorMod 4 = .ok (.iload_n 2, 1) := by decide +kernel
theorem dX8_floorMod_5 : decode cX8_floorMod 5 = .ok (.ifCond .ge 9, 3) := by decide +kernel
theorem dX8_floorMod_8 : decode cX8_floorMod 8 = .ok (.iload_n 2, 1) := by decide +kernel
theorem dX8_floorMod_9 : decode cX8_floorMod 9 = .ok (.iload_n 1, 1) := by decide +kernel
theorem dX8_floorMod_10 : decode cX8_floorMod 10 = .ok (.iadd, 1) := by decide +kernel
theorem dX8_floorMod_11 : decode cX8_floorMod 11 = .ok (.goto 4, 3) := by decide +kernel
theorem dX8_floorMod_14 : decode cX8_floorMod 14 = .ok (.iload_n 2, 1) := by decide +kernel
theorem dX8_floorMod_15 : decode cX8_floorMod 15 = .ok (.ireturn, 1) := by decide +kernel
set_option maxRecDepth 20000 in
theorem ggX8_note_X8_isVoice : GoodIn wsX8_note wsX8_isVoice := goodIn_r _ [10, 11, 12, 13, 9, 14, 23, 24, 25, 26, 27, 28, 29, 30, 31, 32, 33, 34, 35, 36, 37, 38, 39, 40, 41, 42, 43, 44, 45, 46, 47, 48, 49, 50, 51, 52, 53, 54, 55, 56, 57, 58] (by decide +kernel) (by decide +kernel)
set_option maxRecDepth 20000 in
theorem gX8_note_X8_isVoice : GoodIn wsX8_note (wsV RX8 115 RX8 yX8_isVoice wsX8_isVoice) := goodIn_app (goodIn_of _ (by decide +kernel)) ggX8_note_X8_isVoice
set_option maxRecDepth 20000 in
theorem ggX8_note_X8_isBar : GoodIn wsX8_note wsX8_isBar := goodIn_r _ [18, 19, 12, 13, 9, 14, 23, 24, 25, 26, 27, 28, 29, 30, 31, 32, 33, 34, 35, 36, 37, 38, 39, 40, 41, 42, 43, 44, 45, 46, 47, 48, 49, 50, 51, 52, 53, 54, 55, 56, 57, 58] (by decide +kernel) (by decide +kernel)
set_option maxRecDepth 20000 in
theorem gX8_note_X8_isBar : GoodIn wsX8_note (wsV RX8 119 RX8 yX8_isBar wsX8_isBar) := goodIn_app (goodIn_of _ (by decide +kernel)) ggX8_note_X8_isBar
set_option maxRecDepth 20000 in
theorem ggX8_note_X8_in : GoodIn wsX8_note wsX8_in := goodIn_r _ [14] (by decide +kernel) (by decide +kernel)
set_option maxRecDepth 20000 in
theorem gX8_note_X8_in : GoodIn wsX8_note (va_wsS RX8 108 yX8_in wsX8_in) := goodIn_app (goodIn_of _ (by decide +kernel)) ggX8_note_X8_in
set_option maxRecDepth 20000 in
theorem ggX8_note_X8_floorMod : GoodIn wsX8_note wsX8_floorMod := goodIn_r _ [22] (by decide +kernel) (by decide +kernel)
set_option maxRecDepth 20000 in
theorem gX8_note_X8_floorMod : GoodIn wsX8_note (va_wsS RX8 122 yX8_floorMod wsX8_floorMod) := goodIn_app (goodIn_of _ (by decide +kernel)) ggX8_note_X8_floorMod
theorem dX8_note_0 : decode cX8_note 0 = .ok (.aload_n 0, 1) := by decide +kernel
theorem dX8_note_1 : decode cX8_note 1 = .ok (.iload_n 1, 1) := by decide +kernel
theorem dX8_note_2 : decode cX8_note 2 = .ok (.invokevirtual 115, 3) := by decide +kernel
theorem dX8_note_5 : decode cX8_note 5 = .ok (.ifCond .eq 11, 3) := by decide +kernel
theorem dX8_note_8 : decode cX8_note 8 = .ok (.aload_n 0, 1) := by decide +kernel
theorem dX8_note_9 : decode cX8_note 9 = .ok (.iload_n 2, 1) := by decide +kernel
theorem dX8_note_10 : decode cX8_note 10 = .ok (.invokevirtual 119, 3) := by decide +kernel
theorem dX8_note_13 : decode cX8_note 13 = .ok (.ifCond .ne 6, 3) := by decide +kernel
theorem dX8_note_16 : decode cX8_note 16 = .ok (.bipush (-101), 2) := by decide +kernel
theorem dX8_note_18 : decode cX8_note 18 = .ok (.ireturn, 1) := by decide +kernel
theorem dX8_note_19 : decode cX8_note 19 = .ok (.iload_n 3, 1) := by decide +kernel
theorem dX8_note_20 : decode cX8_note 20 = .ok (.iconst 0, 1) := by decide +kernel
theorem dX8_note_21 : decode cX8_note 21 = .ok (.bipush 47, 2) := by decide +kernel
theorem dX8_note_23 : decode cX8_note 23 = .ok (.invokestatic 108, 3) := by decide +kernel
theorem dX8_note_26 : decode cX8_note 26 = .ok (.ifCond .eq 57, 3) := by decide +kernel
theorem dX8_note_29 : decode cX8_note 29 = .ok (.iload 4, 2) := by decide +kernel
theorem dX8_note_31 : decode cX8_note 31 = .ok (.iconst 1, 1) := by decide +kernel
theorem dX8_note_32 : decode cX8_note 32 = .ok (.bipush 48, 2) := by decide +kernel
theorem dX8_note_34 : decode cX8_note 34 = .ok (.iload_n 3, 1) := by decide +kernel
theorem dX8_note_35 : decode cX8_note 35 = .ok (.isub, 1) := by decide +kernel
theorem dX8_note_36 : decode cX8_note 36 = .ok (.invokestatic 108, 3) := by decide +kernel
theorem dX8_note_39 : decode cX8_note 39 = .ok (.ifCond .eq 44, 3) := by decide +kernel
theorem dX8_note_42 : decode cX8_note 42 = .ok (.iload 5, 2) := by decide +kernel
theorem dX8_note_44 : decode cX8_note 44 = .ok (.iconst 0, 1) := by decide +kernel
theorem dX8_note_45 : decode cX8_note 45 = .ok (.bipush 127, 2) := by decide +kernel
theorem dX8_note_47 : decode cX8_note 47 = .ok (.invokestatic 108, 3) := by decide +kernel
theorem dX8_note_50 : decode cX8_note 50 = .ok (.ifCond .eq 33, 3) := by decide +kernel
theorem dX8_note_53 : decode cX8_note 53 = .ok (.iload 6, 2) := by decide +kernel
theorem dX8_note_55 : decode cX8_note 55 = .ok (.bipush (-15), 2) := by decide +kernel
theorem dX8_note_57 : decode cX8_note 57 = .ok (.bipush 19, 2) := by decide +kernel
theorem dX8_note_59 : decode cX8_note 59 = .ok (.invokestatic 108, 3) := by decide +kernel
theorem dX8_note_62 : decode cX8_note 62 = .ok (.ifCond .eq 21, 3) := by decide +kernel
theorem dX8_note_65 : decode cX8_note 65 = .ok (.bipush 7, 2) := by decide +kernel
theorem dX8_note_67 : decode cX8_note 67 = .ok (.iload 6, 2) := by decide +kernel
theorem dX8_note_69 : decode cX8_note 69 = .ok (.imul, 1) := by decide +kernel
theorem dX8_note_70 : decode cX8_note 70 = .ok (.bipush 12, 2) := by decide +kernel
theorem dX8_note_72 : decode cX8_note 72 = .ok (.invokestatic 122, 3) := by decide +kernel
theorem dX8_note_75 : decode cX8_note 75 = .ok (.iload 5, 2) := by decide +kernel
theorem dX8_note_77 : decode cX8_note 77 = .ok (.bipush 12, 2) := by decide +kernel
theorem dX8_note_79 : decode cX8_note 79 = .ok (.irem, 1) := by decide +kernel
theorem dX8_note_80 : decode cX8_note 80 = .ok (.if_icmp .eq 6, 3) := by decide +kernel
theorem dX8_note_83 : decode cX8_note 83 = .ok (.bipush (-102), 2) := by decide +kernel
theorem dX8_note_85 : decode cX8_note 85 = .ok (.ireturn, 1) := by decide +kernel
theorem dX8_note_86 : decode cX8_note 86 = .ok (.bipush 40, 2) := by decide +kernel
theorem dX8_note_88 : decode cX8_note 88 = .ok (.iload_n 1, 1) := by decide +kernel
theorem dX8_note_89 : decode cX8_note 89 = .ok (.imul, 1) := by decide +kernel
theorem dX8_note_90 : decode cX8_note 90 = .ok (.iload_n 2, 1) := by decide +kernel
theorem dX8_note_91 : decode cX8_note 91 = .ok (.iadd, 1) := by decide +kernel
theorem dX8_note_92 : decode cX8_note 92 = .ok (.istore 7, 2) := by decide +kernel
theorem dX8_note_94 : decode cX8_note 94 = .ok (.iconst 0, 1) := by decide +kernel
theorem dX8_note_95 : decode cX8_note 95 = .ok (.istore 8, 2) := by decide +kernel
theorem dX8_note_97 : decode cX8_note 97 = .ok (.iload 8, 2) := by decide +kernel
theorem dX8_note_99 : decode cX8_note 99 = .ok (.aload_n 0, 1) := by decide +kernel
theorem dX8_note_100 : decode cX8_note 100 = .ok (.getfield 7, 3) := by decide +kernel
theorem dX8_note_103 : decode cX8_note 103 = .ok (.iload 7, 2) := by decide +kernel
theorem dX8_note_105 : decode cX8_note 105 = .ok (.iaload, 1) := by decide +kernel
theorem dX8_note_106 : decode cX8_note 106 = .ok (.if_icmp .ge 47, 3) := by decide +kernel
theorem dX8_note_109 : decode cX8_note 109 = .ok (.aload_n 0, 1) := by decide +kernel
theorem dX8_note_110 : decode cX8_note 110 = .ok (.getfield 13, 3) := by decide +kernel
theorem dX8_note_113 : decode cX8_note 113 = .ok (.bipush 8, 2) := by decide +kernel
theorem dX8_note_115 : decode cX8_note 115 = .ok (.iload 7, 2) := by decide +kernel
theorem dX8_note_117 : decode cX8_note 117 = .ok (.imul, 1) := by decide +kernel
theorem dX8_note_118 : decode cX8_note 118 = .ok (.iload 8, 2) := by decide +kernel
theorem dX8_note_120 : decode cX8_note 120 = .ok (.iadd, 1) := by decide +kernel
theorem dX8_note_121 : decode cX8_note 121 = .ok (.iaload, 1) := by decide +kernel
theorem dX8_note_122 : decode cX8_note 122 = .ok (.iload_n 3, 1) := by decide +kernel
theorem dX8_note_123 : decode cX8_note 123 = .ok (.if_icmp .ne 24, 3) := by decide +kernel
theorem dX8_note_126 : decode cX8_note 126 = .ok (.aload_n 0, 1) := by decide +kernel
theorem dX8_note_127 : decode cX8_note 127 = .ok (.getfield 19, 3) := by decide +kernel
theorem dX8_note_130 : decode cX8_note 130 = .ok (.bipush 8, 2) := by decide +kernel
theorem dX8_note_132 : decode cX8_note 132 = .ok (.iload 7, 2) := by decide +kernel
theorem dX8_note_134 : decode cX8_note 134 = .ok (.imul, 1) := by decide +kernel
theorem dX8_note_135 : decode cX8_note 135 = .ok (.iload 8, 2) := by decide +kernel
theorem dX8_note_137 : decode cX8_note 137 = .ok (.iadd, 1) := by decide +kernel
theorem dX8_note_138 : decode cX8_note 138 = .ok (.iaload, 1) := by decide +kernel
theorem dX8_note_139 : decode cX8_note 139 = .ok (.iload 5, 2) := by decide +kernel
theorem dX8_note_141 : decode cX8_note 141 = .ok (.if_icmp .ne 6, 3) := by decide +kernel
theorem dX8_note_144 : decode cX8_note 144 = .ok (.bipush (-103), 2) := by decide +kernel
theorem dX8_note_146 : decode cX8_note 146 = .ok (.ireturn, 1) := by decide +kernel
theorem dX8_note_147 : decode cX8_note 147 = .ok (.iinc 8 1, 3) := by decide +kernel
theorem dX8_note_150 : decode cX8_note 150 = .ok (.goto (-53), 3) := by decide +kernel
theorem dX8_note_153 : decode cX8_note 153 = .ok (.aload_n 0, 1) := by decide +kernel
theorem dX8_note_154 : decode cX8_note 154 = .ok (.getfield 7, 3) := by decide +kernel
theorem dX8_note_157 : decode cX8_note 157 = .ok (.iload 7, 2) := by decide +kernel
theorem dX8_note_159 : decode cX8_note 159 = .ok (.iaload, 1) := by decide +kernel
theorem dX8_note_160 : decode cX8_note 160 = .ok (.bipush 8, 2) := by decide +kernel
theorem dX8_note_162 : decode cX8_note 162 = .ok (.if_icmp .ne 6, 3) := by decide +kernel
theorem dX8_note_165 : decode cX8_note 165 = .ok (.bipush (-104), 2) := by decide +kernel
theorem dX8_note_167 : decode cX8_note 167 = .ok (.ireturn, 1) := by decide +kernel
theorem dX8_note_168 : decode cX8_note 168 = .ok (.bipush 8, 2) := by decide +kernel
theorem dX8_note_170 : decode cX8_note 170 = .ok (.iload 7, 2) := by decide +kernel
theorem dX8_note_172 : decode cX8_note 172 = .ok (.imul, 1) := by decide +kernel
theorem dX8_note_173 : decode cX8_note 173 = .ok (.aload_n 0, 1) := by decide +kernel
theorem dX8_note_174 : decode cX8_note 174 = .ok (.getfield 7, 3) := by decide +kernel
theorem dX8_note_177 : decode cX8_note 177 = .ok (.iload 7, 2) := by decide +kernel
theorem dX8_note_179 : decode cX8_note 179 = .ok (.iaload, 1) := by decide +kernel
theorem dX8_note_180 : decode cX8_note 180 = .ok (.iadd, 1) := by decide +kernel
theorem dX8_note_181 : decode cX8_note 181 = .ok (.istore 8, 2) := by decide +kernel
theorem dX8_note_183 : decode cX8_note 183 = .ok (.iload 8, 2) := by decide +kernel
theorem dX8_note_185 : decode cX8_note 185 = .ok (.bipush 8, 2) := by decide +kernel
theorem dX8_note_187 : decode cX8_note 187 = .ok (.iload 7, 2) := by decide +kernel
theorem dX8_note_189 : decode cX8_note 189 = .ok (.imul, 1) := by decide +kernel
theorem dX8_note_190 : decode cX8_note 190 = .ok (.if_icmp .le 113, 3) := by decide +kernel
theorem dX8_note_193 : decode cX8_note 193 = .ok (.aload_n 0, 1) := by decide +kernel
theorem dX8_note_194 : decode cX8_note 194 = .ok (.getfield 13, 3) := by decide +kernel
theorem dX8_note_197 : decode cX8_note 197 = .ok (.iload 8, 2) := by decide +kernel
theorem dX8_note_199 : decode cX8_note 199 = .ok (.iconst 1, 1) := by decide +kernel
theorem dX8_note_200 : decode cX8_note 200 = .ok (.isub, 1) := by decide +kernel
theorem dX8_note_201 : decode cX8_note 201 = .ok (.iaload, 1) := by decide +kernel
theorem dX8_note_202 : decode cX8_note 202 = .ok (.iload_n 3, 1) := by decide +kernel
theorem dX8_note_203 : decode cX8_note 203 = .ok (.if_icmp .gt 30, 3) := by decide +kernel
theorem dX8_note_206 : decode cX8_note 206 = .ok (.aload_n 0, 1) := by decide +kernel
theorem dX8_note_207 : decode cX8_note 207 = .ok (.getfield 13, 3) := by decide +kernel
theorem dX8_note_210 : decode cX8_note 210 = .ok (.iload 8, 2) := by decide +kernel
theorem dX8_note_212 : decode cX8_note 212 = .ok (.iconst 1, 1) := by decide +kernel
theorem dX8_note_213 : decode cX8_note 213 = .ok (.isub, 1) := by decide +kernel
theorem dX8_note_214 : decode cX8_note 214 = .ok (.iaload, 1) := by decide +kernel
theorem dX8_note_215 : decode cX8_note 215 = .ok (.iload_n 3, 1) := by decide +kernel
theorem dX8_note_216 : decode cX8_note 216 = .ok (.if_icmp .ne 87, 3) := by decide +kernel
theorem dX8_note_219 : decode cX8_note 219 = .ok (.aload_n 0, 1) := by decide +kernel
theorem dX8_note_220 : decode cX8_note 220 = .ok (.getfield 19, 3) := by decide +kernel
theorem dX8_note_223 : decode cX8_note 223 = .ok (.iload 8, 2) := by decide +kernel
theorem dX8_note_225 : decode cX8_note 225 = .ok (.iconst 1, 1) := by decide +kernel
theorem dX8_note_226 : decode cX8_note 226 = .ok (.isub, 1) := by decide +kernel
theorem dX8_note_227 : decode cX8_note 227 = .ok (.iaload, 1) := by decide +kernel
theorem dX8_note_228 : decode cX8_note 228 = .ok (.iload 5, 2) := by decide +kernel
theorem dX8_note_230 : decode cX8_note 230 = .ok (.if_icmp .le 73, 3) := by decide +kernel
theorem dX8_note_233 : decode cX8_note 233 = .ok (.aload_n 0, 1) := by decide +kernel
theorem dX8_note_234 : decode cX8_note 234 = .ok (.getfield 13, 3) := by decide +kernel
theorem dX8_note_237 : decode cX8_note 237 = .ok (.iload 8, 2) := by decide +kernel
theorem dX8_note_239 : decode cX8_note 239 = .ok (.aload_n 0, 1) := by decide +kernel
theorem dX8_note_240 : decode cX8_note 240 = .ok (.getfield 13, 3) := by decide +kernel
theorem dX8_note_243 : decode cX8_note 243 = .ok (.iload 8, 2) := by decide +kernel
theorem dX8_note_245 : decode cX8_note 245 = .ok (.iconst 1, 1) := by decide +kernel
theorem dX8_note_246 : decode cX8_note 246 = .ok (.isub, 1) := by decide +kernel
theorem dX8_note_247 : decode cX8_note 247 = .ok (.iaload, 1) := by decide +kernel
theorem dX8_note_248 : decode cX8_note 248 = .ok (.iastore, 1) := by decide +kernel
theorem dX8_note_249 : decode cX8_note 249 = .ok (.aload_n 0, 1) := by decide +kernel
theorem dX8_note_250 : decode cX8_note 250 = .ok (.getfield 16, 3) := by decide +kernel
theorem dX8_note_253 : decode cX8_note 253 = .ok (.iload 8, 2) := by decide +kernel
theorem dX8_note_255 : decode cX8_note 255 = .ok (.aload_n 0, 1) := by decide +kernel
theorem dX8_note_256 : decode cX8_note 256 = .ok (.getfield 16, 3) := by decide +kernel
theorem dX8_note_259 : decode cX8_note 259 = .ok (.iload 8, 2) := by decide +kernel
theorem dX8_note_261 : decode cX8_note 261 = .ok (.iconst 1, 1) := by decide +kernel
theorem dX8_note_262 : decode cX8_note 262 = .ok (.isub, 1) := by decide +kernel
theorem dX8_note_263 : decode cX8_note 263 = .ok (.iaload, 1) := by decide +kernel
theorem dX8_note_264 : decode cX8_note 264 = .ok (.iastore, 1) := by decide +kernel
theorem dX8_note_265 : decode cX8_note 265 = .ok (.aload_n 0, 1) := by decide +kernel
theorem dX8_note_266 : decode cX8_note 266 = .ok (.getfield 19, 3) := by decide +kernel
theorem dX8_note_269 : decode cX8_note 269 = .ok (.iload 8, 2) := by decide +kernel
theorem dX8_note_271 : decode cX8_note 271 = .ok (.aload_n 0, 1) := by decide +kernel
theorem dX8_note_272 : decode cX8_note 272 = .ok (.getfield 19, 3) := by decide +kernel
theorem dX8_note_275 : decode cX8_note 275 = .ok (.iload 8, 2) := by decide +kernel
theorem dX8_note_277 : decode cX8_note 277 = .ok (.iconst 1, 1) := by decide +kernel
theorem dX8_note_278 : decode cX8_note 278 = .ok (.isub, 1) := by decide +kernel
theorem dX8_note_279 : decode cX8_note 279 = .ok (.iaload, 1) := by decide +kernel
theorem dX8_note_280 : decode cX8_note 280 = .ok (.iastore, 1) := by decide +kernel
theorem dX8_note_281 : decode cX8_note 281 = .ok (.aload_n 0, 1) := by decide +kernel
theorem dX8_note_282 : decode cX8_note 282 = .ok (.getfield 22, 3) := by decide +kernel
theorem dX8_note_285 : decode cX8_note 285 = .ok (.iload 8, 2) := by decide +kernel
theorem dX8_note_287 : decode cX8_note 287 = .ok (.aload_n 0, 1) := by decide +kernel
theorem dX8_note_288 : decode cX8_note 288 = .ok (.getfield 22, 3) := by decide +kernel
theorem dX8_note_291 : decode cX8_note 291 = .ok (.iload 8, 2) := by decide +kernel
theorem dX8_note_293 : decode cX8_note 293 = .ok (.iconst 1, 1) := by decide +kernel
theorem dX8_note_294 : decode cX8_note 294 = .ok (.isub, 1) := by decide +kernel
theorem dX8_note_295 : decode cX8_note 295 = .ok (.iaload, 1) := by decide +kernel
theorem dX8_note_296 : decode cX8_note 296 = .ok (.iastore, 1) := by decide +kernel
theorem dX8_note_297 : decode cX8_note 297 = .ok (.iinc 8 (-1), 3) := by decide +kernel
theorem dX8_note_300 : decode cX8_note 300 = .ok (.goto (-117), 3) := by decide +kernel
theorem dX8_note_303 : decode cX8_note 303 = .ok (.aload_n 0, 1) := by decide +kernel
theorem dX8_note_304 : decode cX8_note 304 = .ok (.getfield 13, 3) := by decide +kernel
theorem dX8_note_307 : decode cX8_note 307 = .ok (.iload 8, 2) := by decide +kernel
theorem dX8_note_309 : decode cX8_note 309 = .ok (.iload_n 3, 1) := by decide +kernel
theorem dX8_note_310 : decode cX8_note 310 = .ok (.iastore, 1) := by decide +kernel
theorem dX8_note_311 : decode cX8_note 311 = .ok (.aload_n 0, 1) := by decide +kernel
theorem dX8_note_312 : decode cX8_note 312 = .ok (.getfield 16, 3) := by decide +kernel
theorem dX8_note_315 : decode cX8_note 315 = .ok (.iload 8, 2) := by decide +kernel
theorem dX8_note_317 : decode cX8_note 317 = .ok (.iload 4, 2) := by decide +kernel
theorem dX8_note_319 : decode cX8_note 319 = .ok (.iastore, 1) := by decide +kernel
theorem dX8_note_320 : decode cX8_note 320 = .ok (.aload_n 0, 1) := by decide +kernel
theorem dX8_note_321 : decode cX8_note 321 = .ok (.getfield 19, 3) := by decide +kernel
theorem dX8_note_324 : decode cX8_note 324 = .ok (.iload 8, 2) := by decide +kernel
theorem dX8_note_326 : decode cX8_note 326 = .ok (.iload 5, 2) := by decide +kernel
theorem dX8_note_328 : decode cX8_note 328 = .ok (.iastore, 1) := by decide +kernel
theorem dX8_note_329 : decode cX8_note 329 = .ok (.aload_n 0, 1) := by decide +kernel
theorem dX8_note_330 : decode cX8_note 330 = .ok (.getfield 22, 3) := by decide +kernel
theorem dX8_note_333 : decode cX8_note 333 = .ok (.iload 8, 2) := by decide +kernel
theorem dX8_note_335 : decode cX8_note 335 = .ok (.iload 6, 2) := by decide +kernel
theorem dX8_note_337 : decode cX8_note 337 = .ok (.iastore, 1) := by decide +kernel
theorem dX8_note_338 : decode cX8_note 338 = .ok (.aload_n 0, 1) := by decide +kernel
theorem dX8_note_339 : decode cX8_note 339 = .ok (.getfield 7, 3) := by decide +kernel
theorem dX8_note_342 : decode cX8_note 342 = .ok (.iload 7, 2) := by decide +kernel
theorem dX8_note_344 : decode cX8_note 344 = .ok (.dup2, 1) := by decide +kernel
theorem dX8_note_345 : decode cX8_note 345 = .ok (.iaload, 1) := by decide +kernel
theorem dX8_note_346 : decode cX8_note 346 = .ok (.iconst 1, 1) := by decide +kernel
theorem dX8_note_347 : decode cX8_note 347 = .ok (.iadd, 1) := by decide +kernel
theorem dX8_note_348 : decode cX8_note 348 = .ok (.iastore, 1) := by decide +kernel
theorem dX8_note_349 : decode cX8_note 349 = .ok (.aload_n 0, 1) := by decide +kernel
theorem dX8_note_350 : decode cX8_note 350 = .ok (.getfield 7, 3) := by decide +kernel
theorem dX8_note_353 : decode cX8_note 353 = .ok (.iload 7, 2) := by decide +kernel
theorem dX8_note_355 : decode cX8_note 355 = .ok (.iaload, 1) := by decide +kernel
theorem dX8_note_356 : decode cX8_note 356 = .ok (.ireturn, 1) := by decide +kernel
set_option maxRecDepth 20000 in
theorem ggX8_drop_X8_isVoice : GoodIn wsX8_drop wsX8_isVoice := goodIn_r _ [6, 7, 8, 9, 5, 10, 16, 17, 18, 19, 20, 21, 22, 23, 24, 25, 26, 27, 28, 29, 30, 31, 32, 33, 34, 35, 36, 37, 38, 39, 40, 41, 42, 43, 44, 45, 46, 47, 48, 49, 50, 51] (by decide +kernel) (by decide +kernel)
set_option maxRecDepth 20000 in
theorem gX8_drop_X8_isVoice : GoodIn wsX8_drop (wsV RX8 115 RX8 yX8_isVoice wsX8_isVoice) := goodIn_app (goodIn_of _ (by decide +kernel)) ggX8_drop_X8_isVoice
set_option maxRecDepth 20000 in
theorem ggX8_drop_X8_isBar : GoodIn wsX8_drop wsX8_isBar := goodIn_r _ [14, 15, 8, 9, 5, 10, 16, 17, 18, 19, 20, 21, 22, 23, 24, 25, 26, 27, 28, 29, 30, 31, 32, 33, 34, 35, 36, 37, 38, 39, 40, 41, 42, 43, 44, 45, 46, 47, 48, 49, 50, 51] (by decide +kernel) (by decide +kernel)
set_option maxRecDepth 20000 in
theorem gX8_drop_X8_isBar : GoodIn wsX8_drop (wsV RX8 119 RX8 yX8_isBar wsX8_isBar) := goodIn_app (goodIn_of _ (by decide +kernel)) ggX8_drop_X8_isBar
theorem dX8_drop_0 : decode cX8_drop 0 = .ok (.aload_n 0, 1) := by decide +kernel
theorem dX8_drop_1 : decode cX8_drop 1 = .ok (.iload_n 1, 1) := by decide +kernel
theorem dX8_drop_2 : decode cX8_drop 2 = .ok (.invokevirtual 115, 3) := by decide +kernel
theorem dX8_drop_5 : decode cX8_drop 5 = .ok (.ifCond .eq 11, 3) := by decide +kernel
theorem dX8_drop_8 : decode cX8_drop 8 = .ok (.aload_n 0, 1) := by decide +kernel
theorem dX8_drop_9 : decode cX8_drop 9 = .ok (.iload_n 2, 1) := by decide +kernel
theorem dX8_drop_10 : decode cX8_drop 10 = .ok (.invokevirtual 119, 3) := by decide +kernel
theorem dX8_drop_13 : decode cX8_drop 13 = .ok (.ifCond .ne 6, 3) := by decide +kernel
theorem dX8_drop_16 : decode cX8_drop 16 = .ok (.bipush (-101), 2) := by decide +kernel
theorem dX8_drop_18 : decode cX8_drop 18 = .ok (.ireturn, 1) := by decide +kernel
theorem dX8_drop_19 : decode cX8_drop 19 = .ok (.aload_n 0, 1) := by decide +kernel
theorem dX8_drop_20 : decode cX8_drop 20 = .ok (.getfield 7, 3) := by decide +kernel
theorem dX8_drop_23 : decode cX8_drop 23 = .ok (.bipush 40, 2) := by decide +kernel
theorem dX8_drop_25 : decode cX8_drop 25 = .ok (.iload_n 1, 1) := by decide +kernel
theorem dX8_drop_26 : decode cX8_drop 26 = .ok (.imul, 1) := by decide +kernel
theorem dX8_drop_27 : decode cX8_drop 27 = .ok (.iload_n 2, 1) := by decide +kernel
theorem dX8_drop_28 : decode cX8_drop 28 = .ok (.iadd, 1) := by decide +kernel
theorem dX8_drop_29 : decode cX8_drop 29 = .ok (.iaload, 1) := by decide +kernel
theorem dX8_drop_30 : decode cX8_drop 30 = .ok (.istore_n 3, 1) := by decide +kernel
theorem dX8_drop_31 : decode cX8_drop 31 = .ok (.aload_n 0, 1) := by decide +kernel
theorem dX8_drop_32 : decode cX8_drop 32 = .ok (.getfield 7, 3) := by decide +kernel
theorem dX8_drop_35 : decode cX8_drop 35 = .ok (.bipush 40, 2) := by decide +kernel
theorem dX8_drop_37 : decode cX8_drop 37 = .ok (.iload_n 1, 1) := by decide +kernel
theorem dX8_drop_38 : decode cX8_drop 38 = .ok (.imul, 1) := by decide +kernel
theorem dX8_drop_39 : decode cX8_drop 39 = .ok (.iload_n 2, 1) := by decide +kernel
theorem dX8_drop_40 : decode cX8_drop 40 = .ok (.iadd, 1) := by decide +kernel
theorem dX8_drop_41 : decode cX8_drop 41 = .ok (.iconst 0, 1) := by decide +kernel
theorem dX8_drop_42 : decode cX8_drop 42 = .ok (.iastore, 1) := by decide +kernel
theorem dX8_drop_43 : decode cX8_drop 43 = .ok (.iload_n 3, 1) := by decide +kernel
theorem dX8_drop_44 : decode cX8_drop 44 = .ok (.ireturn, 1) := by decide +kernel
set_option maxRecDepth 20000 in
theorem ggX8_mark_X8_isBar : GoodIn wsX8_mark wsX8_isBar := goodIn_r _ [7, 8, 9, 10, 6, 11, 12, 13, 14, 15, 16, 17, 18, 19, 20, 21, 22, 23, 24, 25, 26, 27, 28, 29, 30, 31, 32, 33, 34, 35, 36, 37, 38, 39, 40, 41, 42, 43, 44, 45, 46, 47] (by decide +kernel) (by decide +kernel)
set_option maxRecDepth 20000 in
theorem gX8_mark_X8_isBar : GoodIn wsX8_mark (wsV RX8 119 RX8 yX8_isBar wsX8_isBar) := goodIn_app (goodIn_of _ (by decide +kernel)) ggX8_mark_X8_isBar
set_option maxRecDepth 20000 in
theorem ggX8_mark_X8_in : GoodIn wsX8_mark wsX8_in := goodIn_r _ [11] (by decide +kernel) (by decide +kernel)
set_option maxRecDepth 20000 in
theorem gX8_mark_X8_in : GoodIn wsX8_mark (va_wsS RX8 108 yX8_in wsX8_in) := goodIn_app (goodIn_of _ (by decide +kernel)) ggX8_mark_X8_in
theorem dX8_mark_0 : decode cX8_mark 0 = .ok (.aload_n 0, 1) := by decide +kernel
theorem dX8_mark_1 : decode cX8_mark 1 = .ok (.iload_n 1, 1) := by decide +kernel
theorem dX8_mark_2 : decode cX8_mark 2 = .ok (.invokevirtual 119, 3) := by decide +kernel
theorem dX8_mark_5 : decode cX8_mark 5 = .ok (.ifCond .ne 6, 3) := by decide +kernel
theorem dX8_mark_8 : decode cX8_mark 8 = .ok (.bipush (-101), 2) := by decide +kernel
theorem dX8_mark_10 : decode cX8_mark 10 = .ok (.ireturn, 1) := by decide +kernel
theorem dX8_mark_11 : decode cX8_mark 11 = .ok (.iload_n 2, 1) := by decide +kernel
theorem dX8_mark_12 : decode cX8_mark 12 = .ok (.iconst 0, 1) := by decide +kernel
theorem dX8_mark_13 : decode cX8_mark 13 = .ok (.iconst 4, 1) := by decide +kernel
theorem dX8_mark_14 : decode cX8_mark 14 = .ok (.invokestatic 108, 3) := by decide +kernel
theorem dX8_mark_17 : decode cX8_mark 17 = .ok (.ifCond .eq 32, 3) := by decide +kernel
theorem dX8_mark_20 : decode cX8_mark 20 = .ok (.iload_n 2, 1) := by decide +kernel
theorem dX8_mark_21 : decode cX8_mark 21 = .ok (.ifCond .ne 17, 3) := by decide +kernel
theorem dX8_mark_24 : decode cX8_mark 24 = .ok (.iload_n 3, 1) := by decide +kernel
theorem dX8_mark_25 : decode cX8_mark 25 = .ok (.bipush (-7), 2) := by decide +kernel
theorem dX8_mark_27 : decode cX8_mark 27 = .ok (.bipush 7, 2) := by decide +kernel
theorem dX8_mark_29 : decode cX8_mark 29 = .ok (.invokestatic 108, 3) := by decide +kernel
theorem dX8_mark_32 : decode cX8_mark 32 = .ok (.ifCond .ne 20, 3) := by decide +kernel
theorem dX8_mark_35 : decode cX8_mark 35 = .ok (.goto 14, 3) := by decide +kernel
theorem dX8_mark_38 : decode cX8_mark 38 = .ok (.iload_n 3, 1) := by decide +kernel
theorem dX8_mark_39 : decode cX8_mark 39 = .ok (.iconst 0, 1) := by decide +kernel
theorem dX8_mark_40 : decode cX8_mark 40 = .ok (.sipush 999, 3) := by decide +kernel
theorem dX8_mark_43 : decode cX8_mark 43 = .ok (.invokestatic 108, 3) := by decide +kernel
theorem dX8_mark_46 : decode cX8_mark 46 = .ok (.ifCond .ne 6, 3) := by decide +kernel
theorem dX8_mark_49 : decode cX8_mark 49 = .ok (.bipush (-102), 2) := by decide +kernel
theorem dX8_mark_51 : decode cX8_mark 51 = .ok (.ireturn, 1) := by decide +kernel
theorem dX8_mark_52 : decode cX8_mark 52 = .ok (.iconst 5, 1) := by decide +kernel
theorem dX8_mark_53 : decode cX8_mark 53 = .ok (.iload_n 1, 1) := by decide +kernel
theorem dX8_mark_54 : decode cX8_mark 54 = .ok (.imul, 1) := by decide +kernel
theorem dX8_mark_55 : decode cX8_mark 55 = .ok (.iload_n 2, 1) := by decide +kernel
theorem dX8_mark_56 : decode cX8_mark 56 = .ok (.iadd, 1) := by decide +kernel
theorem dX8_mark_57 : decode cX8_mark 57 = .ok (.istore 4, 2) := by decide +kernel
theorem dX8_mark_59 : decode cX8_mark 59 = .ok (.aload_n 0, 1) := by decide +kernel
theorem dX8_mark_60 : decode cX8_mark 60 = .ok (.getfield 25, 3) := by decide +kernel
theorem dX8_mark_63 : decode cX8_mark 63 = .ok (.iload 4, 2) := by decide +kernel
theorem dX8_mark_65 : decode cX8_mark 65 = .ok (.baload, 1) := by decide +kernel
theorem dX8_mark_66 : decode cX8_mark 66 = .ok (.ifCond .eq 13, 3) := by decide +kernel
theorem dX8_mark_69 : decode cX8_mark 69 = .ok (.aload_n 0, 1) := by decide +kernel
theorem dX8_mark_70 : decode cX8_mark 70 = .ok (.getfield 29, 3) := by decide +kernel
theorem dX8_mark_73 : decode cX8_mark 73 = .ok (.iload 4, 2) := by decide +kernel
theorem dX8_mark_75 : decode cX8_mark 75 = .ok (.iaload, 1) := by decide +kernel
theorem dX8_mark_76 : decode cX8_mark 76 = .ok (.goto 5, 3) := by decide +kernel
theorem dX8_mark_79 : decode cX8_mark 79 = .ok (.bipush (-100), 2) := by decide +kernel
theorem dX8_mark_81 : decode cX8_mark 81 = .ok (.istore 5, 2) := by decide +kernel
theorem dX8_mark_83 : decode cX8_mark 83 = .ok (.aload_n 0, 1) := by decide +kernel
theorem dX8_mark_84 : decode cX8_mark 84 = .ok (.getfield 25, 3) := by decide +kernel
theorem dX8_mark_87 : decode cX8_mark 87 = .ok (.iload 4, 2) := by decide +kernel
theorem dX8_mark_89 : decode cX8_mark 89 = .ok (.iconst 1, 1) := by decide +kernel
theorem dX8_mark_90 : decode cX8_mark 90 = .ok (.bastore, 1) := by decide +kernel
theorem dX8_mark_91 : decode cX8_mark 91 = .ok (.aload_n 0, 1) := by decide +kernel
theorem dX8_mark_92 : decode cX8_mark 92 = .ok (.getfield 29, 3) := by decide +kernel
theorem dX8_mark_95 : decode cX8_mark 95 = .ok (.iload 4, 2) := by decide +kernel
theorem dX8_mark_97 : decode cX8_mark 97 = .ok (.iload_n 3, 1) := by decide +kernel
theorem dX8_mark_98 : decode cX8_mark 98 = .ok (.iastore, 1) := by decide +kernel
theorem dX8_mark_99 : decode cX8_mark 99 = .ok (.iload 5, 2) := by decide +kernel
theorem dX8_mark_101 : decode cX8_mark 101 = .ok (.ireturn, 1) := by decide +kernel
set_option maxRecDepth 20000 in
theorem ggX8_unmark_X8_isBar : GoodIn wsX8_unmark wsX8_isBar := goodIn_r _ [7, 8, 9, 10, 6, 11, 12, 13, 14, 15, 16, 17, 18, 19, 20, 21, 22, 23, 24, 25, 26, 27, 28, 29, 30, 31, 32, 33, 34, 35, 36, 37, 38, 39, 40, 41, 42, 43, 44, 45, 46, 47] (by decide +kernel) (by decide +kernel)
set_option maxRecDepth 20000 in
theorem gX8_unmark_X8_isBar : GoodIn wsX8_unmark (wsV RX8 119 RX8 yX8_isBar wsX8_isBar) := goodIn_app (goodIn_of _ (by decide +kernel)) ggX8_unmark_X8_isBar
set_option maxRecDepth 20000 in
theorem ggX8_unmark_X8_in : GoodIn wsX8_unmark wsX8_in := goodIn_r _ [11] (by decide +kernel) (by decide +kernel)
set_option maxRecDepth 20000 in
theorem gX8_unmark_X8_in : GoodIn wsX8_unmark (va_wsS RX8 108 yX8_in wsX8_in) := goodIn_app (goodIn_of _ (by decide +kernel)) ggX8_unmark_X8_in
theorem dX8_unmark_0 : decode cX8_unmark 0 = .ok (.aload_n 0, 1) := by decide +kernel
theorem dX8_unmark_1 : decode cX8_unmark 1 = .ok (.iload_n 1, 1) := by decide +kernel
theorem dX8_unmark_2 : decode cX8_unmark 2 = .ok (.invokevirtual 119, 3) := by decide +kernel
theorem dX8_unmark_5 : decode cX8_unmark 5 = .ok (.ifCond .ne 6, 3) := by decide +kernel
theorem dX8_unmark_8 : decode cX8_unmark 8 = .ok (.bipush (-101), 2) := by decide +kernel
theorem dX8_unmark_10 : decode cX8_unmark 10 = .ok (.ireturn, 1) := by decide +kernel
theorem dX8_unmark_11 : decode cX8_unmark 11 = .ok (.iload_n 2, 1) := by decide +kernel
theorem dX8_unmark_12 : decode cX8_unmark 12 = .ok (.iconst 0, 1) := by decide +kernel
theorem dX8_unmark_13 : decode cX8_unmark 13 = .ok (.iconst 4, 1) := by decide +kernel
theorem dX8_unmark_14 : decode cX8_unmark 14 = .ok (.invokestatic 108, 3) := by decide +kernel
theorem dX8_unmark_17 : decode cX8_unmark 17 = .ok (.ifCond .ne 6, 3) := by decide +kernel
theorem dX8_unmark_20 : decode cX8_unmark 20 = .ok (.bipush (-102), 2) := by decide +kernel
theorem dX8_unmark_22 : decode cX8_unmark 22 = .ok (.ireturn, 1) := by decide +kernel
theorem dX8_unmark_23 : decode cX8_unmark 23 = .ok (.iconst 5, 1) := by decide +kernel
theorem dX8_unmark_24 : decode cX8_unmark 24 = .ok (.iload_n 1, 1) := by decide +kernel
theorem dX8_unmark_25 : decode cX8_unmark 25 = .ok (.imul, 1) := by decide +kernel
theorem dX8_unmark_26 : decode cX8_unmark 26 = .ok (.iload_n 2, 1) := by decide +kernel
theorem dX8_unmark_27 : decode cX8_unmark 27 = .ok (.iadd, 1) := by decide +kernel
theorem dX8_unmark_28 : decode cX8_unmark 28 = .ok (.istore_n 3, 1) := by decide +kernel
theorem dX8_unmark_29 : decode cX8_unmark 29 = .ok (.aload_n 0, 1) := by decide +kernel
theorem dX8_unmark_30 : decode cX8_unmark 30 = .ok (.getfield 25, 3) := by decide +kernel
theorem dX8_unmark_33 : decode cX8_unmark 33 = .ok (.iload_n 3, 1) := by decide +kernel
theorem dX8_unmark_34 : decode cX8_unmark 34 = .ok (.baload, 1) := by decide +kernel
theorem dX8_unmark_35 : decode cX8_unmark 35 = .ok (.ifCond .eq 12, 3) := by decide +kernel
theorem dX8_unmark_38 : decode cX8_unmark 38 = .ok (.aload_n 0, 1) := by decide +kernel
theorem dX8_unmark_39 : decode cX8_unmark 39 = .ok (.getfield 29, 3) := by decide +kernel
theorem dX8_unmark_42 : decode cX8_unmark 42 = .ok (.iload_n 3, 1) := by decide +kernel
theorem dX8_unmark_43 : decode cX8_unmark 43 = .ok (.iaload, 1) := by decide +kernel
theorem dX8_unmark_44 : decode cX8_unmark 44 = .ok (.goto 5, 3) := by decide +kernel
theorem dX8_unmark_47 : decode cX8_unmark 47 = .ok (.bipush (-100), 2) := by decide +kernel
theorem dX8_unmark_49 : decode cX8_unmark 49 = .ok (.istore 4, 2) := by decide +kernel
theorem dX8_unmark_51 : decode cX8_unmark 51 = .ok (.aload_n 0, 1) := by decide +kernel
theorem dX8_unmark_52 : decode cX8_unmark 52 = .ok (.getfield 25, 3) := by decide +kernel
theorem dX8_unmark_55 : decode cX8_unmark 55 = .ok (.iload_n 3, 1) := by decide +kernel
theorem dX8_unmark_56 : decode cX8_unmark 56 = .ok (.iconst 0, 1) := by decide +kernel
theorem dX8_unmark_57 : decode cX8_unmark 57 = .ok (.bastore, 1) := by decide +kernel
theorem dX8_unmark_58 : decode cX8_unmark 58 = .ok (.iload 4, 2) := by decide +kernel
theorem dX8_unmark_60 : decode cX8_unmark 60 = .ok (.ireturn, 1) := by decide +kernel
set_option maxRecDepth 20000 in
theorem ggX8_instrument_X8_isVoice : GoodIn wsX8_instrument wsX8_isVoice := goodIn_r _ [7, 8, 9, 10, 6, 11, 12, 13, 14, 15, 16, 17, 18, 19, 20, 21, 22, 23, 24, 25, 26, 27, 28, 29, 30, 31, 32, 33, 34, 35, 36, 37, 38, 39, 40, 41, 42, 43, 44, 45, 46, 47] (by decide +kernel) (by decide +kernel)
set_option maxRecDepth 20000 in
theorem gX8_instrument_X8_isVoice : GoodIn wsX8_instrument (wsV RX8 115 RX8 yX8_isVoice wsX8_isVoice) := goodIn_app (goodIn_of _ (by decide +kernel)) ggX8_instrument_X8_isVoice
set_option maxRecDepth 20000 in
theorem ggX8_instrument_X8_in : GoodIn wsX8_instrument wsX8_in := goodIn_r _ [11] (by decide +kernel) (by decide +kernel)
set_option maxRecDepth 20000 in
theorem gX8_instrument_X8_in : GoodIn wsX8_instrument (va_wsS RX8 108 yX8_in wsX8_in) := goodIn_app (goodIn_of _ (by decide +kernel)) ggX8_instrument_X8_in
theorem dX8_instrument_0 : decode cX8_instrument 0 = .ok (.aload_n 0, 1) := by decide +kernel
theorem dX8_instrument_1 : decode cX8_instrument 1 = .ok (.iload_n 1, 1) := by decide +kernel
theorem dX8_instrument_2 : decode cX8_instrument 2 = .ok (.invokevirtual 115, 3) := by decide +kernel
theorem dX8_instrument_5 : decode cX8_instrument 5 = .ok (.ifCond .ne 6, 3) := by decide +kernel
theorem dX8_instrument_8 : decode cX8_instrument 8 = .ok (.bipush (-101), 2) := by decide +kernel
theorem dX8_instrument_10 : decode cX8_instrument 10 = .ok (.ireturn, 1) := by decide +kernel
theorem dX8_instrument_11 : decode cX8_instrument 11 = .ok (.iload_n 2, 1) := by decide +kernel
theorem dX8_instrument_12 : decode cX8_instrument 12 = .ok (.bipush (-6), 2) := by decide +kernel
theorem dX8_instrument_14 : decode cX8_instrument 14 = .ok (.bipush 6, 2) := by decide +kernel
theorem dX8_instrument_16 : decode cX8_instrument 16 = .ok (.invokestatic 108, 3) := by decide +kernel
theorem dX8_instrument_19 : decode cX8_instrument 19 = .ok (.ifCond .eq 13, 3) := by decide +kernel
theorem dX8_instrument_22 : decode cX8_instrument 22 = .ok (.iload_n 3, 1) := by decide +kernel
theorem dX8_instrument_23 : decode cX8_instrument 23 = .ok (.bipush (-2), 2) := by decide +kernel
theorem dX8_instrument_25 : decode cX8_instrument 25 = .ok (.iconst 2, 1) := by decide +kernel
theorem dX8_instrument_26 : decode cX8_instrument 26 = .ok (.invokestatic 108, 3) := by decide +kernel
theorem dX8_instrument_29 : decode cX8_instrument 29 = .ok (.ifCond .ne 6, 3) := by decide +kernel
theorem dX8_instrument_32 : decode cX8_instrument 32 = .ok (.bipush (-102), 2) := by decide +kernel
theorem dX8_instrument_34 : decode cX8_instrument 34 = .ok (.ireturn, 1) := by decide +kernel
theorem dX8_instrument_35 : decode cX8_instrument 35 = .ok (.aload_n 0, 1) := by decide +kernel
theorem dX8_instrument_36 : decode cX8_instrument 36 = .ok (.getfield 32, 3) := by decide +kernel
theorem dX8_instrument_39 : decode cX8_instrument 39 = .ok (.iload_n 1, 1) := by decide +kernel
theorem dX8_instrument_40 : decode cX8_instrument 40 = .ok (.iload_n 2, 1) := by decide +kernel
theorem dX8_instrument_41 : decode cX8_instrument 41 = .ok (.iastore, 1) := by decide +kernel
theorem dX8_instrument_42 : decode cX8_instrument 42 = .ok (.aload_n 0, 1) := by decide +kernel
theorem dX8_instrument_43 : decode cX8_instrument 43 = .ok (.getfield 35, 3) := by decide +kernel
theorem dX8_instrument_46 : decode cX8_instrument 46 = .ok (.iload_n 1, 1) := by decide +kernel
theorem dX8_instrument_47 : decode cX8_instrument 47 = .ok (.iload_n 3, 1) := by decide +kernel
theorem dX8_instrument_48 : decode cX8_instrument 48 = .ok (.iastore, 1) := by decide +kernel
theorem dX8_instrument_49 : decode cX8_instrument 49 = .ok (.iconst 1, 1) := by decide +kernel
theorem dX8_instrument_50 : decode cX8_instrument 50 = .ok (.ireturn, 1) := by decide +kernel
set_option maxRecDepth 20000 in
theorem ggX8_cueing_X8_in : GoodIn wsX8_cueing wsX8_in := goodIn_r _ [5] (by decide +kernel) (by decide +kernel)
set_option maxRecDepth 20000 in
theorem gX8_cueing_X8_in : GoodIn wsX8_cueing (va_wsS RX8 108 yX8_in wsX8_in) := goodIn_app (goodIn_of _ (by decide +kernel)) ggX8_cueing_X8_in
theorem dX8_cueing_0 : decode cX8_cueing 0 = .ok (.iload_n 1, 1) := by decide +kernel
theorem dX8_cueing_1 : decode cX8_cueing 1 = .ok (.iconst 1, 1) := by decide +kernel
theorem dX8_cueing_2 : decode cX8_cueing 2 = .ok (.bipush 40, 2) := by decide +kernel
theorem dX8_cueing_4 : decode cX8_cueing 4 = .ok (.invokestatic 108, 3) := by decide +kernel
theorem dX8_cueing_7 : decode cX8_cueing 7 = .ok (.ifCond .ne 6, 3) := by decide +kernel
theorem dX8_cueing_10 : decode cX8_cueing 10 = .ok (.bipush (-102), 2) := by decide +kernel
theorem dX8_cueing_12 : decode cX8_cueing 12 = .ok (.ireturn, 1) := by decide +kernel
theorem dX8_cueing_13 : decode cX8_cueing 13 = .ok (.aload_n 0, 1) := by decide +kernel
theorem dX8_cueing_14 : decode cX8_cueing 14 = .ok (.getfield 38, 3) := by decide +kernel
theorem dX8_cueing_17 : decode cX8_cueing 17 = .ok (.istore_n 2, 1) := by decide +kernel
theorem dX8_cueing_18 : decode cX8_cueing 18 = .ok (.aload_n 0, 1) := by decide +kernel
theorem dX8_cueing_19 : decode cX8_cueing 19 = .ok (.iload_n 1, 1) := by decide +kernel
theorem dX8_cueing_20 : decode cX8_cueing 20 = .ok (.putfield 38, 3) := by decide +kernel
theorem dX8_cueing_23 : decode cX8_cueing 23 = .ok (.iload_n 2, 1) := by decide +kernel
theorem dX8_cueing_24 : decode cX8_cueing 24 = .ok (.ireturn, 1) := by decide +kernel
theorem dX8_isEmpty_0 : decode cX8_isEmpty 0 = .ok (.aload_n 0, 1) := by decide +kernel
theorem dX8_isEmpty_1 : decode cX8_isEmpty 1 = .ok (.getfield 7, 3) := by decide +kernel
theorem dX8_isEmpty_4 : decode cX8_isEmpty 4 = .ok (.bipush 40, 2) := by decide +kernel
theorem dX8_isEmpty_6 : decode cX8_isEmpty 6 = .ok (.iload_n 1, 1) := by decide +kernel
theorem dX8_isEmpty_7 : decode cX8_isEmpty 7 = .ok (.imul, 1) := by decide +kernel
theorem dX8_isEmpty_8 : decode cX8_isEmpty 8 = .ok (.iload_n 2, 1) := by decide +kernel
theorem dX8_isEmpty_9 : decode cX8_isEmpty 9 = .ok (.iadd, 1) := by decide +kernel
theorem dX8_isEmpty_10 : decode cX8_isEmpty 10 = .ok (.iaload, 1) := by decide +kernel
theorem dX8_isEmpty_11 : decode cX8_isEmpty 11 = .ok (.ifCond .ne 7, 3) := by decide +kernel
theorem dX8_isEmpty_14 : decode cX8_isEmpty 14 = .ok (.iconst 1, 1) := by decide +kernel
theorem dX8_isEmpty_15 : decode cX8_isEmpty 15 = .ok (.goto 4, 3) := by decide +kernel
theorem dX8_isEmpty_18 : decode cX8_isEmpty 18 = .ok (.iconst 0, 1) := by decide +kernel
theorem dX8_isEmpty_19 : decode cX8_isEmpty 19 = .ok (.ireturn, 1) := by decide +kernel
theorem dX8_isNeeded_0 : decode cX8_isNeeded 0 = .ok (.aload_n 0, 1) := by decide +kernel
theorem dX8_isNeeded_1 : decode cX8_isNeeded 1 = .ok (.getfield 25, 3) := by decide +kernel
theorem dX8_isNeeded_4 : decode cX8_isNeeded 4 = .ok (.iconst 5, 1) := by decide +kernel
theorem dX8_isNeeded_5 : decode cX8_isNeeded 5 = .ok (.iload_n 1, 1) := by decide +kernel
theorem dX8_isNeeded_6 : decode cX8_isNeeded 6 = .ok (.imul, 1) := by decide +kernel
theorem dX8_isNeeded_7 : decode cX8_isNeeded 7 = .ok (.baload, 1) := by decide +kernel
theorem dX8_isNeeded_8 : decode cX8_isNeeded 8 = .ok (.ifCond .ne 42, 3) := by decide +kernel
theorem dX8_isNeeded_11 : decode cX8_isNeeded 11 = .ok (.aload_n 0, 1) := by decide +kernel
theorem dX8_isNeeded_12 : decode cX8_isNeeded 12 = .ok (.getfield 25, 3) := by decide +kernel
theorem dX8_isNeeded_15 : decode cX8_isNeeded 15 = .ok (.iconst 5, 1) := by decide +kernel
theorem dX8_isNeeded_16 : decode cX8_isNeeded 16 = .ok (.iload_n 1, 1) := by decide +kernel
theorem dX8_isNeeded_17 : decode cX8_isNeeded 17 = .ok (.imul, 1) := by decide +kernel
theorem dX8_isNeeded_18 : decode cX8_isNeeded 18 = .ok (.iconst 1, 1) := by decide +kernel
theorem dX8_isNeeded_19 : decode cX8_isNeeded 19 = .ok (.iadd, 1) := by decide +kernel
theorem dX8_isNeeded_20 : decode cX8_isNeeded 20 = .ok (.baload, 1) := by decide +kernel
theorem dX8_isNeeded_21 : decode cX8_isNeeded 21 = .ok (.ifCond .ne 29, 3) := by decide +kernel
theorem dX8_isNeeded_24 : decode cX8_isNeeded 24 = .ok (.aload_n 0, 1) := by decide +kernel
theorem dX8_isNeeded_25 : decode cX8_isNeeded 25 = .ok (.getfield 25, 3) := by decide +kernel
theorem dX8_isNeeded_28 : decode cX8_isNeeded 28 = .ok (.iconst 5, 1) := by decide +kernel
theorem dX8_isNeeded_29 : decode cX8_isNeeded 29 = .ok (.iload_n 1, 1) := by decide +kernel
theorem dX8_isNeeded_30 : decode cX8_isNeeded 30 = .ok (.imul, 1) := by decide +kernel
theorem dX8_isNeeded_31 : decode cX8_isNeeded 31 = .ok (.iconst 2, 1) := by decide +kernel
theorem dX8_isNeeded_32 : decode cX8_isNeeded 32 = .ok (.iadd, 1) := by decide +kernel
theorem dX8_isNeeded_33 : decode cX8_isNeeded 33 = .ok (.baload, 1) := by decide +kernel
theorem dX8_isNeeded_34 : decode cX8_isNeeded 34 = .ok (.ifCond .ne 16, 3) := by decide +kernel
theorem dX8_isNeeded_37 : decode cX8_isNeeded 37 = .ok (.aload_n 0, 1) := by decide +kernel
theorem dX8_isNeeded_38 : decode cX8_isNeeded 38 = .ok (.getfield 25, 3) := by decide +kernel
theorem dX8_isNeeded_41 : decode cX8_isNeeded 41 = .ok (.iconst 5, 1) := by decide +kernel
theorem dX8_isNeeded_42 : decode cX8_isNeeded 42 = .ok (.iload_n 1, 1) := by decide +kernel
theorem dX8_isNeeded_43 : decode cX8_isNeeded 43 = .ok (.imul, 1) := by decide +kernel
theorem dX8_isNeeded_44 : decode cX8_isNeeded 44 = .ok (.iconst 3, 1) := by decide +kernel
theorem dX8_isNeeded_45 : decode cX8_isNeeded 45 = .ok (.iadd, 1) := by decide +kernel
theorem dX8_isNeeded_46 : decode cX8_isNeeded 46 = .ok (.baload, 1) := by decide +kernel
theorem dX8_isNeeded_47 : decode cX8_isNeeded 47 = .ok (.ifCond .eq 7, 3) := by decide +kernel
theorem dX8_isNeeded_50 : decode cX8_isNeeded 50 = .ok (.iconst 1, 1) := by decide +kernel
theorem dX8_isNeeded_51 : decode cX8_isNeeded 51 = .ok (.goto 4, 3) := by decide +kernel
theorem dX8_isNeeded_54 : decode cX8_isNeeded 54 = .ok (.iconst 0, 1) := by decide +kernel
theorem dX8_isNeeded_55 : decode cX8_isNeeded 55 = .ok (.ireturn, 1) := by decide +kernel
theorem dX8_keyAt_0 : decode cX8_keyAt 0 = .ok (.iconst 0, 1) := by decide +kernel
theorem dX8_keyAt_1 : decode cX8_keyAt 1 = .ok (.istore_n 2, 1) := by decide +kernel
theorem dX8_keyAt_2 : decode cX8_keyAt 2 = .ok (.iconst 0, 1) := by decide +kernel
theorem dX8_keyAt_3 : decode cX8_keyAt 3 = .ok (.istore_n 3, 1) := by decide +kernel
theorem dX8_keyAt_4 : decode cX8_keyAt 4 = .ok (.iload_n 3, 1) := by decide +kernel
theorem dX8_keyAt_5 : decode cX8_keyAt 5 = .ok (.iload_n 1, 1) := by decide +kernel
theorem dX8_keyAt_6 : decode cX8_keyAt 6 = .ok (.if_icmp .gt 33, 3) := by decide +kernel
theorem dX8_keyAt_9 : decode cX8_keyAt 9 = .ok (.aload_n 0, 1) := by decide +kernel
theorem dX8_keyAt_10 : decode cX8_keyAt 10 = .ok (.getfield 25, 3) := by decide +kernel
theorem dX8_keyAt_13 : decode cX8_keyAt 13 = .ok (.iconst 5, 1) := by decide +kernel
theorem dX8_keyAt_14 : decode cX8_keyAt 14 = .ok (.iload_n 3, 1) := by decide +kernel
theorem dX8_keyAt_15 : decode cX8_keyAt 15 = .ok (.imul, 1) := by decide +kernel
theorem dX8_keyAt_16 : decode cX8_keyAt 16 = .ok (.baload, 1) := by decide +kernel
theorem dX8_keyAt_17 : decode cX8_keyAt 17 = .ok (.ifCond .eq 14, 3) := by decide +kernel
theorem dX8_keyAt_20 : decode cX8_keyAt 20 = .ok (.aload_n 0, 1) := by decide +kernel
theorem dX8_keyAt_21 : decode cX8_keyAt 21 = .ok (.getfield 29, 3) := by decide +kernel
theorem dX8_keyAt_24 : decode cX8_keyAt 24 = .ok (.iconst 5, 1) := by decide +kernel
theorem dX8_keyAt_25 : decode cX8_keyAt 25 = .ok (.iload_n 3, 1) := by decide +kernel
theorem dX8_keyAt_26 : decode cX8_keyAt 26 = .ok (.imul, 1) := by decide +kernel
theorem dX8_keyAt_27 : decode cX8_keyAt 27 = .ok (.iaload, 1) := by decide +kernel
theorem dX8_keyAt_28 : decode cX8_keyAt 28 = .ok (.goto 4, 3) := by decide +kernel
theorem dX8_keyAt_31 : decode cX8_keyAt 31 = .ok (.iload_n 2, 1) := by decide +kernel
theorem dX8_keyAt_32 : decode cX8_keyAt 32 = .ok (.istore_n 2, 1) := by decide +kernel
theorem dX8_keyAt_33 : decode cX8_keyAt 33 = .ok (.iinc 3 1, 3) := by decide +kernel
theorem dX8_keyAt_36 : decode cX8_keyAt 36 = .ok (.goto (-32), 3) := by decide +kernel
theorem dX8_keyAt_39 : decode cX8_keyAt 39 = .ok (.iload_n 2, 1) := by decide +kernel
theorem dX8_keyAt_40 : decode cX8_keyAt 40 = .ok (.ireturn, 1) := by decide +kernel
set_option maxRecDepth 20000 in
theorem ggX8_turnOf_X8_keyAt : GoodIn wsX8_turnOf wsX8_keyAt := goodIn_r _ [6, 7, 8, 9, 10, 11, 12, 13, 14, 15, 16, 17, 18, 19, 20, 21, 22, 23, 24, 25, 26, 27, 28, 29, 30, 31, 32, 33, 34, 35, 36, 37, 38, 39, 40, 41, 42, 43, 44] (by decide +kernel) (by decide +kernel)
set_option maxRecDepth 20000 in
theorem gX8_turnOf_X8_keyAt : GoodIn wsX8_turnOf (wsV RX8 126 RX8 yX8_keyAt wsX8_keyAt) := goodIn_app (goodIn_of _ (by decide +kernel)) ggX8_turnOf_X8_keyAt
theorem dX8_turnOf_0 : decode cX8_turnOf 0 = .ok (.aload_n 0, 1) := by decide +kernel
theorem dX8_turnOf_1 : decode cX8_turnOf 1 = .ok (.iload_n 2, 1) := by decide +kernel
theorem dX8_turnOf_2 : decode cX8_turnOf 2 = .ok (.invokevirtual 126, 3) := by decide +kernel
theorem dX8_turnOf_5 : decode cX8_turnOf 5 = .ok (.aload_n 0, 1) := by decide +kernel
theorem dX8_turnOf_6 : decode cX8_turnOf 6 = .ok (.getfield 32, 3) := by decide +kernel
theorem dX8_turnOf_9 : decode cX8_turnOf 9 = .ok (.iload_n 1, 1) := by decide +kernel
theorem dX8_turnOf_10 : decode cX8_turnOf 10 = .ok (.iaload, 1) := by decide +kernel
theorem dX8_turnOf_11 : decode cX8_turnOf 11 = .ok (.iadd, 1) := by decide +kernel
theorem dX8_turnOf_12 : decode cX8_turnOf 12 = .ok (.istore_n 3, 1) := by decide +kernel
theorem dX8_turnOf_13 : decode cX8_turnOf 13 = .ok (.iload_n 3, 1) := by decide +kernel
theorem dX8_turnOf_14 : decode cX8_turnOf 14 = .ok (.bipush 7, 2) := by decide +kernel
theorem dX8_turnOf_16 : decode cX8_turnOf 16 = .ok (.if_icmp .le 8, 3) := by decide +kernel
theorem dX8_turnOf_19 : decode cX8_turnOf 19 = .ok (.bipush (-12), 2) := by decide +kernel
theorem dX8_turnOf_21 : decode cX8_turnOf 21 = .ok (.goto 15, 3) := by decide +kernel
theorem dX8_turnOf_24 : decode cX8_turnOf 24 = .ok (.iload_n 3, 1) := by decide +kernel
theorem dX8_turnOf_25 : decode cX8_turnOf 25 = .ok (.bipush (-7), 2) := by decide +kernel
theorem dX8_turnOf_27 : decode cX8_turnOf 27 = .ok (.if_icmp .ge 8, 3) := by decide +kernel
theorem dX8_turnOf_30 : decode cX8_turnOf 30 = .ok (.bipush 12, 2) := by decide +kernel
theorem dX8_turnOf_32 : decode cX8_turnOf 32 = .ok (.goto 4, 3) := by decide +kernel
theorem dX8_turnOf_35 : decode cX8_turnOf 35 = .ok (.iconst 0, 1) := by decide +kernel
theorem dX8_turnOf_36 : decode cX8_turnOf 36 = .ok (.ireturn, 1) := by decide +kernel
set_option maxRecDepth 20000 in
theorem ggX8_writtenKey_X8_keyAt : GoodIn wsX8_writtenKey wsX8_keyAt := goodIn_r _ [6, 7, 8, 13, 14, 15, 16, 17, 18, 19, 20, 21, 22, 23, 24, 25, 26, 27, 28, 29, 30, 31, 32, 33, 34, 35, 36, 37, 38, 39, 40, 41, 42, 43, 44, 45, 46, 47, 48] (by decide +kernel) (by decide +kernel)
set_option maxRecDepth 20000 in
theorem gX8_writtenKey_X8_keyAt : GoodIn wsX8_writtenKey (wsV RX8 126 RX8 yX8_keyAt wsX8_keyAt) := goodIn_app (goodIn_of _ (by decide +kernel)) ggX8_writtenKey_X8_keyAt
set_option maxRecDepth 20000 in
theorem ggX8_writtenKey_X8_turnOf : GoodIn wsX8_writtenKey wsX8_turnOf := goodIn_r _ [12, 1, 2, 3, 4, 5, 6, 7, 8, 13, 14, 15, 16, 17, 18, 19, 20, 21, 22, 23, 24, 25, 26, 27, 28, 29, 30, 31, 32, 33, 34, 35, 36, 37, 38, 39, 40, 41, 42, 43, 44, 45, 46, 47, 48] (by decide +kernel) (by decide +kernel)
set_option maxRecDepth 20000 in
theorem gX8_writtenKey_X8_turnOf : GoodIn wsX8_writtenKey (wsV RX8 130 RX8 yX8_turnOf wsX8_turnOf) := goodIn_app (goodIn_of _ (by decide +kernel)) ggX8_writtenKey_X8_turnOf
theorem dX8_writtenKey_0 : decode cX8_writtenKey 0 = .ok (.aload_n 0, 1) := by decide +kernel
theorem dX8_writtenKey_1 : decode cX8_writtenKey 1 = .ok (.iload_n 2, 1) := by decide +kernel
theorem dX8_writtenKey_2 : decode cX8_writtenKey 2 = .ok (.invokevirtual 126, 3) := by decide +kernel
theorem dX8_writtenKey_5 : decode cX8_writtenKey 5 = .ok (.aload_n 0, 1) := by decide +kernel
theorem dX8_writtenKey_6 : decode cX8_writtenKey 6 = .ok (.getfield 32, 3) := by decide +kernel
theorem dX8_writtenKey_9 : decode cX8_writtenKey 9 = .ok (.iload_n 1, 1) := by decide +kernel
theorem dX8_writtenKey_10 : decode cX8_writtenKey 10 = .ok (.iaload, 1) := by decide +kernel
theorem dX8_writtenKey_11 : decode cX8_writtenKey 11 = .ok (.iadd, 1) := by decide +kernel
theorem dX8_writtenKey_12 : decode cX8_writtenKey 12 = .ok (.aload_n 0, 1) := by decide +kernel
theorem dX8_writtenKey_13 : decode cX8_writtenKey 13 = .ok (.iload_n 1, 1) := by decide +kernel
theorem dX8_writtenKey_14 : decode cX8_writtenKey 14 = .ok (.iload_n 2, 1) := by decide +kernel
theorem dX8_writtenKey_15 : decode cX8_writtenKey 15 = .ok (.invokevirtual 130, 3) := by decide +kernel
theorem dX8_writtenKey_18 : decode cX8_writtenKey 18 = .ok (.iadd, 1) := by decide +kernel
theorem dX8_writtenKey_19 : decode cX8_writtenKey 19 = .ok (.ireturn, 1) := by decide +kernel
set_option maxRecDepth 20000 in
theorem ggX8_cueOf_X8_isEmpty : GoodIn wsX8_cueOf wsX8_isEmpty := goodIn_r _ [9, 4, 10, 11, 12, 13, 14, 15, 16, 17, 18, 19, 20, 21, 22, 23, 24, 25, 26, 27, 28, 29, 30, 31, 32, 33, 34, 35, 36, 37, 38, 39, 40, 41, 42, 43, 44, 45] (by decide +kernel) (by decide +kernel)
set_option maxRecDepth 20000 in
theorem gX8_cueOf_X8_isEmpty : GoodIn wsX8_cueOf (wsV RX8 133 RX8 yX8_isEmpty wsX8_isEmpty) := goodIn_app (goodIn_of _ (by decide +kernel)) ggX8_cueOf_X8_isEmpty
theorem dX8_cueOf_0 : decode cX8_cueOf 0 = .ok (.aload_n 0, 1) := by decide +kernel
theorem dX8_cueOf_1 : decode cX8_cueOf 1 = .ok (.iload_n 1, 1) := by decide +kernel
theorem dX8_cueOf_2 : decode cX8_cueOf 2 = .ok (.iload_n 2, 1) := by decide +kernel
theorem dX8_cueOf_3 : decode cX8_cueOf 3 = .ok (.invokevirtual 133, 3) := by decide +kernel
theorem dX8_cueOf_6 : decode cX8_cueOf 6 = .ok (.ifCond .eq 24, 3) := by decide +kernel
theorem dX8_cueOf_9 : decode cX8_cueOf 9 = .ok (.iload_n 2, 1) := by decide +kernel
theorem dX8_cueOf_10 : decode cX8_cueOf 10 = .ok (.iconst 1, 1) := by decide +kernel
theorem dX8_cueOf_11 : decode cX8_cueOf 11 = .ok (.iadd, 1) := by decide +kernel
theorem dX8_cueOf_12 : decode cX8_cueOf 12 = .ok (.aload_n 0, 1) := by decide +kernel
theorem dX8_cueOf_13 : decode cX8_cueOf 13 = .ok (.getfield 112, 3) := by decide +kernel
theorem dX8_cueOf_16 : decode cX8_cueOf 16 = .ok (.if_icmp .eq 14, 3) := by decide +kernel
theorem dX8_cueOf_19 : decode cX8_cueOf 19 = .ok (.aload_n 0, 1) := by decide +kernel
theorem dX8_cueOf_20 : decode cX8_cueOf 20 = .ok (.iload_n 1, 1) := by decide +kernel
theorem dX8_cueOf_21 : decode cX8_cueOf 21 = .ok (.iload_n 2, 1) := by decide +kernel
theorem dX8_cueOf_22 : decode cX8_cueOf 22 = .ok (.iconst 1, 1) := by decide +kernel
theorem dX8_cueOf_23 : decode cX8_cueOf 23 = .ok (.iadd, 1) := by decide +kernel
theorem dX8_cueOf_24 : decode cX8_cueOf 24 = .ok (.invokevirtual 133, 3) := by decide +kernel
theorem dX8_cueOf_27 : decode cX8_cueOf 27 = .ok (.ifCond .eq 6, 3) := by decide +kernel
theorem dX8_cueOf_30 : decode cX8_cueOf 30 = .ok (.bipush (-100), 2) := by decide +kernel
theorem dX8_cueOf_32 : decode cX8_cueOf 32 = .ok (.ireturn, 1) := by decide +kernel
theorem dX8_cueOf_33 : decode cX8_cueOf 33 = .ok (.iconst 0, 1) := by decide +kernel
theorem dX8_cueOf_34 : decode cX8_cueOf 34 = .ok (.istore_n 3, 1) := by decide +kernel
theorem dX8_cueOf_35 : decode cX8_cueOf 35 = .ok (.iload_n 2, 1) := by decide +kernel
theorem dX8_cueOf_36 : decode cX8_cueOf 36 = .ok (.istore 4, 2) := by decide +kernel
theorem dX8_cueOf_38 : decode cX8_cueOf 38 = .ok (.iload 4, 2) := by decide +kernel
theorem dX8_cueOf_40 : decode cX8_cueOf 40 = .ok (.ifCond .lt 22, 3) := by decide +kernel
theorem dX8_cueOf_43 : decode cX8_cueOf 43 = .ok (.aload_n 0, 1) := by decide +kernel
theorem dX8_cueOf_44 : decode cX8_cueOf 44 = .ok (.iload_n 1, 1) := by decide +kernel
theorem dX8_cueOf_45 : decode cX8_cueOf 45 = .ok (.iload 4, 2) := by decide +kernel
theorem dX8_cueOf_47 : decode cX8_cueOf 47 = .ok (.invokevirtual 133, 3) := by decide +kernel
theorem dX8_cueOf_50 : decode cX8_cueOf 50 = .ok (.ifCond .eq 12, 3) := by decide +kernel
theorem dX8_cueOf_53 : decode cX8_cueOf 53 = .ok (.iinc 3 1, 3) := by decide +kernel
theorem dX8_cueOf_56 : decode cX8_cueOf 56 = .ok (.iinc 4 (-1), 3) := by decide +kernel
theorem dX8_cueOf_59 : decode cX8_cueOf 59 = .ok (.goto (-21), 3) := by decide +kernel
theorem dX8_cueOf_62 : decode cX8_cueOf 62 = .ok (.bipush (-100), 2) := by decide +kernel
theorem dX8_cueOf_64 : decode cX8_cueOf 64 = .ok (.istore 4, 2) := by decide +kernel
theorem dX8_cueOf_66 : decode cX8_cueOf 66 = .ok (.iconst 0, 1) := by decide +kernel
theorem dX8_cueOf_67 : decode cX8_cueOf 67 = .ok (.istore 5, 2) := by decide +kernel
theorem dX8_cueOf_69 : decode cX8_cueOf 69 = .ok (.iload 5, 2) := by decide +kernel
theorem dX8_cueOf_71 : decode cX8_cueOf 71 = .ok (.aload_n 0, 1) := by decide +kernel
theorem dX8_cueOf_72 : decode cX8_cueOf 72 = .ok (.getfield 105, 3) := by decide +kernel
theorem dX8_cueOf_75 : decode cX8_cueOf 75 = .ok (.if_icmp .ge 71, 3) := by decide +kernel
theorem dX8_cueOf_78 : decode cX8_cueOf 78 = .ok (.iload_n 3, 1) := by decide +kernel
theorem dX8_cueOf_79 : decode cX8_cueOf 79 = .ok (.aload_n 0, 1) := by decide +kernel
theorem dX8_cueOf_80 : decode cX8_cueOf 80 = .ok (.getfield 38, 3) := by decide +kernel
theorem dX8_cueOf_83 : decode cX8_cueOf 83 = .ok (.if_icmp .lt 63, 3) := by decide +kernel
theorem dX8_cueOf_86 : decode cX8_cueOf 86 = .ok (.iload 5, 2) := by decide +kernel
theorem dX8_cueOf_88 : decode cX8_cueOf 88 = .ok (.iload_n 1, 1) := by decide +kernel
theorem dX8_cueOf_89 : decode cX8_cueOf 89 = .ok (.if_icmp .eq 51, 3) := by decide +kernel
theorem dX8_cueOf_92 : decode cX8_cueOf 92 = .ok (.aload_n 0, 1) := by decide +kernel
theorem dX8_cueOf_93 : decode cX8_cueOf 93 = .ok (.iload 5, 2) := by decide +kernel
theorem dX8_cueOf_95 : decode cX8_cueOf 95 = .ok (.iload_n 2, 1) := by decide +kernel
theorem dX8_cueOf_96 : decode cX8_cueOf 96 = .ok (.invokevirtual 133, 3) := by decide +kernel
theorem dX8_cueOf_99 : decode cX8_cueOf 99 = .ok (.ifCond .ne 41, 3) := by decide +kernel
theorem dX8_cueOf_102 : decode cX8_cueOf 102 = .ok (.iload 4, 2) := by decide +kernel
theorem dX8_cueOf_104 : decode cX8_cueOf 104 = .ok (.bipush (-100), 2) := by decide +kernel
theorem dX8_cueOf_106 : decode cX8_cueOf 106 = .ok (.if_icmp .eq 30, 3) := by decide +kernel
theorem dX8_cueOf_109 : decode cX8_cueOf 109 = .ok (.aload_n 0, 1) := by decide +kernel
theorem dX8_cueOf_110 : decode cX8_cueOf 110 = .ok (.getfield 7, 3) := by decide +kernel
theorem dX8_cueOf_113 : decode cX8_cueOf 113 = .ok (.bipush 40, 2) := by decide +kernel
theorem dX8_cueOf_115 : decode cX8_cueOf 115 = .ok (.iload 5, 2) := by decide +kernel
theorem dX8_cueOf_117 : decode cX8_cueOf 117 = .ok (.imul, 1) := by decide +kernel
theorem dX8_cueOf_118 : decode cX8_cueOf 118 = .ok (.iload_n 2, 1) := by decide +kernel
theorem dX8_cueOf_119 : decode cX8_cueOf 119 = .ok (.iadd, 1) := by decide +kernel
theorem dX8_cueOf_120 : decode cX8_cueOf 120 = .ok (.iaload, 1) := by decide +kernel
theorem dX8_cueOf_121 : decode cX8_cueOf 121 = .ok (.aload_n 0, 1) := by decide +kernel
theorem dX8_cueOf_122 : decode cX8_cueOf 122 = .ok (.getfield 7, 3) := by decide +kernel
theorem dX8_cueOf_125 : decode cX8_cueOf 125 = .ok (.bipush 40, 2) := by decide +kernel
theorem dX8_cueOf_127 : decode cX8_cueOf 127 = .ok (.iload 4, 2) := by decide +kernel
theorem dX8_cueOf_129 : decode cX8_cueOf 129 = .ok (.imul, 1) := by decide +kernel
theorem dX8_cueOf_130 : decode cX8_cueOf 130 = .ok (.iload_n 2, 1) := by decide +kernel
theorem dX8_cueOf_131 : decode cX8_cueOf 131 = .ok (.iadd, 1) := by decide +kernel
theorem dX8_cueOf_132 : decode cX8_cueOf 132 = .ok (.iaload, 1) := by decide +kernel
theorem dX8_cueOf_133 : decode cX8_cueOf 133 = .ok (.if_icmp .le 7, 3) := by decide +kernel
theorem dX8_cueOf_136 : decode cX8_cueOf 136 = .ok (.iload 5, 2) := by decide +kernel
theorem dX8_cueOf_138 : decode cX8_cueOf 138 = .ok (.istore 4, 2) := by decide +kernel
theorem dX8_cueOf_140 : decode cX8_cueOf 140 = .ok (.iinc 5 1, 3) := by decide +kernel
theorem dX8_cueOf_143 : decode cX8_cueOf 143 = .ok (.goto (-74), 3) := by decide +kernel
theorem dX8_cueOf_146 : decode cX8_cueOf 146 = .ok (.iload 4, 2) := by decide +kernel
theorem dX8_cueOf_148 : decode cX8_cueOf 148 = .ok (.ireturn, 1) := by decide +kernel
theorem dX8_unlikeStarts_0 : decode cX8_unlikeStarts 0 = .ok (.bipush 40, 2) := by decide +kernel
theorem dX8_unlikeStarts_2 : decode cX8_unlikeStarts 2 = .ok (.iload_n 1, 1) := by decide +kernel
theorem dX8_unlikeStarts_3 : decode cX8_unlikeStarts 3 = .ok (.imul, 1) := by decide +kernel
theorem dX8_unlikeStarts_4 : decode cX8_unlikeStarts 4 = .ok (.iload_n 2, 1) := by decide +kernel
theorem dX8_unlikeStarts_5 : decode cX8_unlikeStarts 5 = .ok (.iadd, 1) := by decide +kernel
theorem dX8_unlikeStarts_6 : decode cX8_unlikeStarts 6 = .ok (.istore_n 3, 1) := by decide +kernel
theorem dX8_unlikeStarts_7 : decode cX8_unlikeStarts 7 = .ok (.iconst 0, 1) := by decide +kernel
theorem dX8_unlikeStarts_8 : decode cX8_unlikeStarts 8 = .ok (.istore 4, 2) := by decide +kernel
theorem dX8_unlikeStarts_10 : decode cX8_unlikeStarts 10 = .ok (.iconst 0, 1) := by decide +kernel
theorem dX8_unlikeStarts_11 : decode cX8_unlikeStarts 11 = .ok (.istore 5, 2) := by decide +kernel
theorem dX8_unlikeStarts_13 : decode cX8_unlikeStarts 13 = .ok (.iload 5, 2) := by decide +kernel
theorem dX8_unlikeStarts_15 : decode cX8_unlikeStarts 15 = .ok (.aload_n 0, 1) := by decide +kernel
theorem dX8_unlikeStarts_16 : decode cX8_unlikeStarts 16 = .ok (.getfield 7, 3) := by decide +kernel
theorem dX8_unlikeStarts_19 : decode cX8_unlikeStarts 19 = .ok (.iload_n 3, 1) := by decide +kernel
theorem dX8_unlikeStarts_20 : decode cX8_unlikeStarts 20 = .ok (.iaload, 1) := by decide +kernel
theorem dX8_unlikeStarts_21 : decode cX8_unlikeStarts 21 = .ok (.if_icmp .ge 53, 3) := by decide +kernel
theorem dX8_unlikeStarts_24 : decode cX8_unlikeStarts 24 = .ok (.iload 4, 2) := by decide +kernel
theorem dX8_unlikeStarts_26 : decode cX8_unlikeStarts 26 = .ok (.iload 5, 2) := by decide +kernel
theorem dX8_unlikeStarts_28 : decode cX8_unlikeStarts 28 = .ok (.ifCond .eq 32, 3) := by decide +kernel
theorem dX8_unlikeStarts_31 : decode cX8_unlikeStarts 31 = .ok (.aload_n 0, 1) := by decide +kernel
theorem dX8_unlikeStarts_32 : decode cX8_unlikeStarts 32 = .ok (.getfield 13, 3) := by decide +kernel
theorem dX8_unlikeStarts_35 : decode cX8_unlikeStarts 35 = .ok (.bipush 8, 2) := by decide +kernel
theorem dX8_unlikeStarts_37 : decode cX8_unlikeStarts 37 = .ok (.iload_n 3, 1) := by decide +kernel
theorem dX8_unlikeStarts_38 : decode cX8_unlikeStarts 38 = .ok (.imul, 1) := by decide +kernel
theorem dX8_unlikeStarts_39 : decode cX8_unlikeStarts 39 = .ok (.iload 5, 2) := by decide +kernel
theorem dX8_unlikeStarts_41 : decode cX8_unlikeStarts 41 = .ok (.iadd, 1) := by decide +kernel
theorem dX8_unlikeStarts_42 : decode cX8_unlikeStarts 42 = .ok (.iaload, 1) := by decide +kernel
theorem dX8_unlikeStarts_43 : decode cX8_unlikeStarts 43 = .ok (.aload_n 0, 1) := by decide +kernel
theorem dX8_unlikeStarts_44 : decode cX8_unlikeStarts 44 = .ok (.getfield 13, 3) := by decide +kernel
theorem dX8_unlikeStarts_47 : decode cX8_unlikeStarts 47 = .ok (.bipush 8, 2) := by decide +kernel
theorem dX8_unlikeStarts_49 : decode cX8_unlikeStarts 49 = .ok (.iload_n 3, 1) := by decide +kernel
theorem dX8_unlikeStarts_50 : decode cX8_unlikeStarts 50 = .ok (.imul, 1) := by decide +kernel
theorem dX8_unlikeStarts_51 : decode cX8_unlikeStarts 51 = .ok (.iload 5, 2) := by decide +kernel
theorem dX8_unlikeStarts_53 : decode cX8_unlikeStarts 53 = .ok (.iadd, 1) := by decide +kernel
theorem dX8_unlikeStarts_54 : decode cX8_unlikeStarts 54 = .ok (.iconst 1, 1) := by decide +kernel
theorem dX8_unlikeStarts_55 : decode cX8_unlikeStarts 55 = .ok (.isub, 1) := by decide +kernel
theorem dX8_unlikeStarts_56 : decode cX8_unlikeStarts 56 = .ok (.iaload, 1) := by decide +kernel
theorem dX8_unlikeStarts_57 : decode cX8_unlikeStarts 57 = .ok (.if_icmp .eq 7, 3) := by decide +kernel
theorem dX8_unlikeStarts_60 : decode cX8_unlikeStarts 60 = .ok (.iconst 1, 1) := by decide +kernel
theorem dX8_unlikeStarts_61 : decode cX8_unlikeStarts 61 = .ok (.goto 4, 3) := by decide +kernel
theorem dX8_unlikeStarts_64 : decode cX8_unlikeStarts 64 = .ok (.iconst 0, 1) := by decide +kernel
theorem dX8_unlikeStarts_65 : decode cX8_unlikeStarts 65 = .ok (.iadd, 1) := by decide +kernel
theorem dX8_unlikeStarts_66 : decode cX8_unlikeStarts 66 = .ok (.istore 4, 2) := by decide +kernel
theorem dX8_unlikeStarts_68 : decode cX8_unlikeStarts 68 = .ok (.iinc 5 1, 3) := by decide +kernel
theorem dX8_unlikeStarts_71 : decode cX8_unlikeStarts 71 = .ok (.goto (-58), 3) := by decide +kernel
theorem dX8_unlikeStarts_74 : decode cX8_unlikeStarts 74 = .ok (.iload 4, 2) := by decide +kernel
theorem dX8_unlikeStarts_76 : decode cX8_unlikeStarts 76 = .ok (.ireturn, 1) := by decide +kernel
set_option maxRecDepth 20000 in
theorem ggX8_addRow_X8_writtenKey : GoodIn wsX8_addRow wsX8_writtenKey := goodIn_r _ [21, 10, 22, 23, 24, 20, 25, 26, 27, 28, 29, 30, 31, 43, 44, 45, 46, 47, 48, 49, 50, 51, 52, 53, 54, 55, 56, 57, 58, 59, 60, 61, 62, 63, 64, 65, 66, 67, 68, 69, 70, 71, 72, 73, 74, 75, 76, 77, 78] (by decide +kernel) (by decide +kernel)
set_option maxRecDepth 20000 in
theorem gX8_addRow_X8_writtenKey : GoodIn wsX8_addRow (wsV RX8 137 RX8 yX8_writtenKey wsX8_writtenKey) := goodIn_app (goodIn_of _ (by decide +kernel)) ggX8_addRow_X8_writtenKey
set_option maxRecDepth 20000 in
theorem ggX8_addRow_X8_unlikeStarts : GoodIn wsX8_addRow wsX8_unlikeStarts := goodIn_r _ [35, 9, 12, 43, 44, 45, 46, 47, 48, 49, 50, 51, 52, 53, 54, 55, 56, 57, 58, 59, 60, 61, 62, 63, 64, 65, 66, 67, 68, 69, 70, 71, 72, 73, 74, 75, 76, 77, 78] (by decide +kernel) (by decide +kernel)
set_option maxRecDepth 20000 in
theorem gX8_addRow_X8_unlikeStarts : GoodIn wsX8_addRow (wsV RX8 140 RX8 yX8_unlikeStarts wsX8_unlikeStarts) := goodIn_app (goodIn_of _ (by decide +kernel)) ggX8_addRow_X8_unlikeStarts
set_option maxRecDepth 20000 in
theorem ggX8_addRow_X8_isNeeded : GoodIn wsX8_addRow wsX8_isNeeded := goodIn_r _ [39, 26, 43, 44, 45, 46, 47, 48, 49, 50, 51, 52, 53, 54, 55, 56, 57, 58, 59, 60, 61, 62, 63, 64, 65, 66, 67, 68, 69, 70, 71, 72, 73, 74, 75, 76, 77, 78] (by decide +kernel) (by decide +kernel)
set_option maxRecDepth 20000 in
theorem gX8_addRow_X8_isNeeded : GoodIn wsX8_addRow (wsV RX8 143 RX8 yX8_isNeeded wsX8_isNeeded) := goodIn_app (goodIn_of _ (by decide +kernel)) ggX8_addRow_X8_isNeeded
set_option maxRecDepth 20000 in
theorem ggX8_addRow_X8_floorMod : GoodIn wsX8_addRow wsX8_floorMod := goodIn_r _ [42] (by decide +kernel) (by decide +kernel)
set_option maxRecDepth 20000 in
theorem gX8_addRow_X8_floorMod : GoodIn wsX8_addRow (va_wsS RX8 122 yX8_floorMod wsX8_floorMod) := goodIn_app (goodIn_of _ (by decide +kernel)) ggX8_addRow_X8_floorMod
set_option maxRecDepth 20000 in
theorem ggX8_addRow_X8_turnOf : GoodIn wsX8_addRow wsX8_turnOf := goodIn_r _ [31, 10, 22, 23, 24, 20, 25, 26, 27, 43, 44, 45, 46, 47, 48, 49, 50, 51, 52, 53, 54, 55, 56, 57, 58, 59, 60, 61, 62, 63, 64, 65, 66, 67, 68, 69, 70, 71, 72, 73, 74, 75, 76, 77, 78] (by decide +kernel) (by decide +kernel)
set_option maxRecDepth 20000 in
theorem gX8_addRow_X8_turnOf : GoodIn wsX8_addRow (wsV RX8 130 RX8 yX8_turnOf wsX8_turnOf) := goodIn_app (goodIn_of _ (by decide +kernel)) ggX8_addRow_X8_turnOf
theorem dX8_addRow_0 : decode cX8_addRow 0 = .ok (.sipush 240, 3) := by decide +kernel
theorem dX8_addRow_3 : decode cX8_addRow 3 = .ok (.aload_n 0, 1) := by decide +kernel
theorem dX8_addRow_4 : decode cX8_addRow 4 = .ok (.getfield 45, 3) := by decide +kernel
theorem dX8_addRow_7 : decode cX8_addRow 7 = .ok (.bipush 6, 2) := by decide +kernel
theorem dX8_addRow_9 : decode cX8_addRow 9 = .ok (.iaload, 1) := by decide +kernel
theorem dX8_addRow_10 : decode cX8_addRow 10 = .ok (.iadd, 1) := by decide +kernel
theorem dX8_addRow_11 : decode cX8_addRow 11 = .ok (.istore 6, 2) := by decide +kernel
theorem dX8_addRow_13 : decode cX8_addRow 13 = .ok (.aload_n 0, 1) := by decide +kernel
theorem dX8_addRow_14 : decode cX8_addRow 14 = .ok (.getfield 45, 3) := by decide +kernel
theorem dX8_addRow_17 : decode cX8_addRow 17 = .ok (.bipush 6, 2) := by decide +kernel
theorem dX8_addRow_19 : decode cX8_addRow 19 = .ok (.dup2, 1) := by decide +kernel
theorem dX8_addRow_20 : decode cX8_addRow 20 = .ok (.iaload, 1) := by decide +kernel
theorem dX8_addRow_21 : decode cX8_addRow 21 = .ok (.iconst 1, 1) := by decide +kernel
theorem dX8_addRow_22 : decode cX8_addRow 22 = .ok (.iadd, 1) := by decide +kernel
theorem dX8_addRow_23 : decode cX8_addRow 23 = .ok (.iastore, 1) := by decide +kernel
theorem dX8_addRow_24 : decode cX8_addRow 24 = .ok (.aload_n 0, 1) := by decide +kernel
theorem dX8_addRow_25 : decode cX8_addRow 25 = .ok (.getfield 48, 3) := by decide +kernel
theorem dX8_addRow_28 : decode cX8_addRow 28 = .ok (.iload 6, 2) := by decide +kernel
theorem dX8_addRow_30 : decode cX8_addRow 30 = .ok (.iload_n 2, 1) := by decide +kernel
theorem dX8_addRow_31 : decode cX8_addRow 31 = .ok (.iastore, 1) := by decide +kernel
theorem dX8_addRow_32 : decode cX8_addRow 32 = .ok (.aload_n 0, 1) := by decide +kernel
theorem dX8_addRow_33 : decode cX8_addRow 33 = .ok (.getfield 51, 3) := by decide +kernel
theorem dX8_addRow_36 : decode cX8_addRow 36 = .ok (.iload 6, 2) := by decide +kernel
theorem dX8_addRow_38 : decode cX8_addRow 38 = .ok (.iload_n 3, 1) := by decide +kernel
theorem dX8_addRow_39 : decode cX8_addRow 39 = .ok (.iastore, 1) := by decide +kernel
theorem dX8_addRow_40 : decode cX8_addRow 40 = .ok (.aload_n 0, 1) := by decide +kernel
theorem dX8_addRow_41 : decode cX8_addRow 41 = .ok (.getfield 54, 3) := by decide +kernel
theorem dX8_addRow_44 : decode cX8_addRow 44 = .ok (.iload 6, 2) := by decide +kernel
theorem dX8_addRow_46 : decode cX8_addRow 46 = .ok (.iload 4, 2) := by decide +kernel
theorem dX8_addRow_48 : decode cX8_addRow 48 = .ok (.iastore, 1) := by decide +kernel
theorem dX8_addRow_49 : decode cX8_addRow 49 = .ok (.aload_n 0, 1) := by decide +kernel
theorem dX8_addRow_50 : decode cX8_addRow 50 = .ok (.getfield 63, 3) := by decide +kernel
theorem dX8_addRow_53 : decode cX8_addRow 53 = .ok (.iload 6, 2) := by decide +kernel
theorem dX8_addRow_55 : decode cX8_addRow 55 = .ok (.iload_n 2, 1) := by decide +kernel
theorem dX8_addRow_56 : decode cX8_addRow 56 = .ok (.iconst 2, 1) := by decide +kernel
theorem dX8_addRow_57 : decode cX8_addRow 57 = .ok (.if_icmp .ne 8, 3) := by decide +kernel
theorem dX8_addRow_60 : decode cX8_addRow 60 = .ok (.iload 5, 2) := by decide +kernel
theorem dX8_addRow_62 : decode cX8_addRow 62 = .ok (.goto 5, 3) := by decide +kernel
theorem dX8_addRow_65 : decode cX8_addRow 65 = .ok (.bipush (-100), 2) := by decide +kernel
theorem dX8_addRow_67 : decode cX8_addRow 67 = .ok (.iastore, 1) := by decide +kernel
theorem dX8_addRow_68 : decode cX8_addRow 68 = .ok (.aload_n 0, 1) := by decide +kernel
theorem dX8_addRow_69 : decode cX8_addRow 69 = .ok (.getfield 60, 3) := by decide +kernel
theorem dX8_addRow_72 : decode cX8_addRow 72 = .ok (.iload 6, 2) := by decide +kernel
theorem dX8_addRow_74 : decode cX8_addRow 74 = .ok (.aload_n 0, 1) := by decide +kernel
theorem dX8_addRow_75 : decode cX8_addRow 75 = .ok (.iload_n 1, 1) := by decide +kernel
theorem dX8_addRow_76 : decode cX8_addRow 76 = .ok (.iload_n 3, 1) := by decide +kernel
theorem dX8_addRow_77 : decode cX8_addRow 77 = .ok (.invokevirtual 137, 3) := by decide +kernel
theorem dX8_addRow_80 : decode cX8_addRow 80 = .ok (.iastore, 1) := by decide +kernel
theorem dX8_addRow_81 : decode cX8_addRow 81 = .ok (.iload_n 2, 1) := by decide +kernel
theorem dX8_addRow_82 : decode cX8_addRow 82 = .ok (.ifCond .ne 14, 3) := by decide +kernel
theorem dX8_addRow_85 : decode cX8_addRow 85 = .ok (.iconst 1, 1) := by decide +kernel
theorem dX8_addRow_86 : decode cX8_addRow 86 = .ok (.aload_n 0, 1) := by decide +kernel
theorem dX8_addRow_87 : decode cX8_addRow 87 = .ok (.iload_n 1, 1) := by decide +kernel
theorem dX8_addRow_88 : decode cX8_addRow 88 = .ok (.iload_n 3, 1) := by decide +kernel
theorem dX8_addRow_89 : decode cX8_addRow 89 = .ok (.invokevirtual 140, 3) := by decide +kernel
theorem dX8_addRow_92 : decode cX8_addRow 92 = .ok (.iadd, 1) := by decide +kernel
theorem dX8_addRow_93 : decode cX8_addRow 93 = .ok (.goto 34, 3) := by decide +kernel
theorem dX8_addRow_96 : decode cX8_addRow 96 = .ok (.iload_n 2, 1) := by decide +kernel
theorem dX8_addRow_97 : decode cX8_addRow 97 = .ok (.iconst 1, 1) := by decide +kernel
theorem dX8_addRow_98 : decode cX8_addRow 98 = .ok (.if_icmp .ne 7, 3) := by decide +kernel
theorem dX8_addRow_101 : decode cX8_addRow 101 = .ok (.iconst 2, 1) := by decide +kernel
theorem dX8_addRow_102 : decode cX8_addRow 102 = .ok (.goto 25, 3) := by decide +kernel
theorem dX8_addRow_105 : decode cX8_addRow 105 = .ok (.iload_n 2, 1) := by decide +kernel
theorem dX8_addRow_106 : decode cX8_addRow 106 = .ok (.iconst 2, 1) := by decide +kernel
theorem dX8_addRow_107 : decode cX8_addRow 107 = .ok (.if_icmp .ne 19, 3) := by decide +kernel
theorem dX8_addRow_110 : decode cX8_addRow 110 = .ok (.iconst 1, 1) := by decide +kernel
theorem dX8_addRow_111 : decode cX8_addRow 111 = .ok (.aload_n 0, 1) := by decide +kernel
theorem dX8_addRow_112 : decode cX8_addRow 112 = .ok (.iload 5, 2) := by decide +kernel
theorem dX8_addRow_114 : decode cX8_addRow 114 = .ok (.iload_n 3, 1) := by decide +kernel
theorem dX8_addRow_115 : decode cX8_addRow 115 = .ok (.invokevirtual 140, 3) := by decide +kernel
theorem dX8_addRow_118 : decode cX8_addRow 118 = .ok (.iconst 1, 1) := by decide +kernel
theorem dX8_addRow_119 : decode cX8_addRow 119 = .ok (.iadd, 1) := by decide +kernel
theorem dX8_addRow_120 : decode cX8_addRow 120 = .ok (.iconst 2, 1) := by decide +kernel
theorem dX8_addRow_121 : decode cX8_addRow 121 = .ok (.idiv, 1) := by decide +kernel
theorem dX8_addRow_122 : decode cX8_addRow 122 = .ok (.iadd, 1) := by decide +kernel
theorem dX8_addRow_123 : decode cX8_addRow 123 = .ok (.goto 4, 3) := by decide +kernel
theorem dX8_addRow_126 : decode cX8_addRow 126 = .ok (.iconst 4, 1) := by decide +kernel
theorem dX8_addRow_127 : decode cX8_addRow 127 = .ok (.istore 7, 2) := by decide +kernel
theorem dX8_addRow_129 : decode cX8_addRow 129 = .ok (.aload_n 0, 1) := by decide +kernel
theorem dX8_addRow_130 : decode cX8_addRow 130 = .ok (.getfield 57, 3) := by decide +kernel
theorem dX8_addRow_133 : decode cX8_addRow 133 = .ok (.iload 6, 2) := by decide +kernel
theorem dX8_addRow_135 : decode cX8_addRow 135 = .ok (.iload 7, 2) := by decide +kernel
theorem dX8_addRow_137 : decode cX8_addRow 137 = .ok (.aload_n 0, 1) := by decide +kernel
theorem dX8_addRow_138 : decode cX8_addRow 138 = .ok (.iload_n 3, 1) := by decide +kernel
theorem dX8_addRow_139 : decode cX8_addRow 139 = .ok (.invokevirtual 143, 3) := by decide +kernel
theorem dX8_addRow_142 : decode cX8_addRow 142 = .ok (.ifCond .eq 7, 3) := by decide +kernel
theorem dX8_addRow_145 : decode cX8_addRow 145 = .ok (.iconst 1, 1) := by decide +kernel
theorem dX8_addRow_146 : decode cX8_addRow 146 = .ok (.goto 4, 3) := by decide +kernel
theorem dX8_addRow_149 : decode cX8_addRow 149 = .ok (.iconst 0, 1) := by decide +kernel
theorem dX8_addRow_150 : decode cX8_addRow 150 = .ok (.iadd, 1) := by decide +kernel
theorem dX8_addRow_151 : decode cX8_addRow 151 = .ok (.iastore, 1) := by decide +kernel
theorem dX8_addRow_152 : decode cX8_addRow 152 = .ok (.aload_n 0, 1) := by decide +kernel
theorem dX8_addRow_153 : decode cX8_addRow 153 = .ok (.getfield 66, 3) := by decide +kernel
theorem dX8_addRow_156 : decode cX8_addRow 156 = .ok (.iload 6, 2) := by decide +kernel
theorem dX8_addRow_158 : decode cX8_addRow 158 = .ok (.iload 5, 2) := by decide +kernel
theorem dX8_addRow_160 : decode cX8_addRow 160 = .ok (.bipush (-100), 2) := by decide +kernel
theorem dX8_addRow_162 : decode cX8_addRow 162 = .ok (.if_icmp .ne 7, 3) := by decide +kernel
theorem dX8_addRow_165 : decode cX8_addRow 165 = .ok (.iconst 0, 1) := by decide +kernel
theorem dX8_addRow_166 : decode cX8_addRow 166 = .ok (.goto 15, 3) := by decide +kernel
theorem dX8_addRow_169 : decode cX8_addRow 169 = .ok (.aload_n 0, 1) := by decide +kernel
theorem dX8_addRow_170 : decode cX8_addRow 170 = .ok (.getfield 7, 3) := by decide +kernel
theorem dX8_addRow_173 : decode cX8_addRow 173 = .ok (.bipush 40, 2) := by decide +kernel
theorem dX8_addRow_175 : decode cX8_addRow 175 = .ok (.iload 5, 2) := by decide +kernel
theorem dX8_addRow_177 : decode cX8_addRow 177 = .ok (.imul, 1) := by decide +kernel
theorem dX8_addRow_178 : decode cX8_addRow 178 = .ok (.iload_n 3, 1) := by decide +kernel
theorem dX8_addRow_179 : decode cX8_addRow 179 = .ok (.iadd, 1) := by decide +kernel
theorem dX8_addRow_180 : decode cX8_addRow 180 = .ok (.iaload, 1) := by decide +kernel
theorem dX8_addRow_181 : decode cX8_addRow 181 = .ok (.iastore, 1) := by decide +kernel
theorem dX8_addRow_182 : decode cX8_addRow 182 = .ok (.iconst 0, 1) := by decide +kernel
theorem dX8_addRow_183 : decode cX8_addRow 183 = .ok (.istore 8, 2) := by decide +kernel
theorem dX8_addRow_185 : decode cX8_addRow 185 = .ok (.iload 8, 2) := by decide +kernel
theorem dX8_addRow_187 : decode cX8_addRow 187 = .ok (.aload_n 0, 1) := by decide +kernel
theorem dX8_addRow_188 : decode cX8_addRow 188 = .ok (.getfield 66, 3) := by decide +kernel
theorem dX8_addRow_191 : decode cX8_addRow 191 = .ok (.iload 6, 2) := by decide +kernel
theorem dX8_addRow_193 : decode cX8_addRow 193 = .ok (.iaload, 1) := by decide +kernel
theorem dX8_addRow_194 : decode cX8_addRow 194 = .ok (.if_icmp .ge 186, 3) := by decide +kernel
theorem dX8_addRow_197 : decode cX8_addRow 197 = .ok (.bipush 8, 2) := by decide +kernel
theorem dX8_addRow_199 : decode cX8_addRow 199 = .ok (.bipush 40, 2) := by decide +kernel
theorem dX8_addRow_201 : decode cX8_addRow 201 = .ok (.iload 5, 2) := by decide +kernel
theorem dX8_addRow_203 : decode cX8_addRow 203 = .ok (.imul, 1) := by decide +kernel
theorem dX8_addRow_204 : decode cX8_addRow 204 = .ok (.iload_n 3, 1) := by decide +kernel
theorem dX8_addRow_205 : decode cX8_addRow 205 = .ok (.iadd, 1) := by decide +kernel
theorem dX8_addRow_206 : decode cX8_addRow 206 = .ok (.imul, 1) := by decide +kernel
theorem dX8_addRow_207 : decode cX8_addRow 207 = .ok (.iload 8, 2) := by decide +kernel
theorem dX8_addRow_209 : decode cX8_addRow 209 = .ok (.iadd, 1) := by decide +kernel
theorem dX8_addRow_210 : decode cX8_addRow 210 = .ok (.istore 9, 2) := by decide +kernel
theorem dX8_addRow_212 : decode cX8_addRow 212 = .ok (.bipush 32, 2) := by decide +kernel
theorem dX8_addRow_214 : decode cX8_addRow 214 = .ok (.iload 6, 2) := by decide +kernel
theorem dX8_addRow_216 : decode cX8_addRow 216 = .ok (.imul, 1) := by decide +kernel
theorem dX8_addRow_217 : decode cX8_addRow 217 = .ok (.iconst 4, 1) := by decide +kernel
theorem dX8_addRow_218 : decode cX8_addRow 218 = .ok (.iload 8, 2) := by decide +kernel
theorem dX8_addRow_220 : decode cX8_addRow 220 = .ok (.imul, 1) := by decide +kernel
theorem dX8_addRow_221 : decode cX8_addRow 221 = .ok (.iadd, 1) := by decide +kernel
theorem dX8_addRow_222 : decode cX8_addRow 222 = .ok (.istore 10, 2) := by decide +kernel
theorem dX8_addRow_224 : decode cX8_addRow 224 = .ok (.bipush 7, 2) := by decide +kernel
theorem dX8_addRow_226 : decode cX8_addRow 226 = .ok (.aload_n 0, 1) := by decide +kernel
theorem dX8_addRow_227 : decode cX8_addRow 227 = .ok (.getfield 32, 3) := by decide +kernel
theorem dX8_addRow_230 : decode cX8_addRow 230 = .ok (.iload_n 1, 1) := by decide +kernel
theorem dX8_addRow_231 : decode cX8_addRow 231 = .ok (.iaload, 1) := by decide +kernel
theorem dX8_addRow_232 : decode cX8_addRow 232 = .ok (.imul, 1) := by decide +kernel
theorem dX8_addRow_233 : decode cX8_addRow 233 = .ok (.bipush 12, 2) := by decide +kernel
theorem dX8_addRow_235 : decode cX8_addRow 235 = .ok (.invokestatic 122, 3) := by decide +kernel
theorem dX8_addRow_238 : decode cX8_addRow 238 = .ok (.istore 11, 2) := by decide +kernel
theorem dX8_addRow_240 : decode cX8_addRow 240 = .ok (.aload_n 0, 1) := by decide +kernel
theorem dX8_addRow_241 : decode cX8_addRow 241 = .ok (.getfield 69, 3) := by decide +kernel
theorem dX8_addRow_244 : decode cX8_addRow 244 = .ok (.iload 10, 2) := by decide +kernel
theorem dX8_addRow_246 : decode cX8_addRow 246 = .ok (.aload_n 0, 1) := by decide +kernel
theorem dX8_addRow_247 : decode cX8_addRow 247 = .ok (.getfield 13, 3) := by decide +kernel
theorem dX8_addRow_250 : decode cX8_addRow 250 = .ok (.iload 9, 2) := by decide +kernel
theorem dX8_addRow_252 : decode cX8_addRow 252 = .ok (.iaload, 1) := by decide +kernel
theorem dX8_addRow_253 : decode cX8_addRow 253 = .ok (.iastore, 1) := by decide +kernel
theorem dX8_addRow_254 : decode cX8_addRow 254 = .ok (.aload_n 0, 1) := by decide +kernel
theorem dX8_addRow_255 : decode cX8_addRow 255 = .ok (.getfield 69, 3) := by decide +kernel
theorem dX8_addRow_258 : decode cX8_addRow 258 = .ok (.iload 10, 2) := by decide +kernel
theorem dX8_addRow_260 : decode cX8_addRow 260 = .ok (.iconst 1, 1) := by decide +kernel
theorem dX8_addRow_261 : decode cX8_addRow 261 = .ok (.iadd, 1) := by decide +kernel
theorem dX8_addRow_262 : decode cX8_addRow 262 = .ok (.aload_n 0, 1) := by decide +kernel
theorem dX8_addRow_263 : decode cX8_addRow 263 = .ok (.getfield 16, 3) := by decide +kernel
theorem dX8_addRow_266 : decode cX8_addRow 266 = .ok (.iload 9, 2) := by decide +kernel
theorem dX8_addRow_268 : decode cX8_addRow 268 = .ok (.iaload, 1) := by decide +kernel
theorem dX8_addRow_269 : decode cX8_addRow 269 = .ok (.iastore, 1) := by decide +kernel
theorem dX8_addRow_270 : decode cX8_addRow 270 = .ok (.aload_n 0, 1) := by decide +kernel
theorem dX8_addRow_271 : decode cX8_addRow 271 = .ok (.getfield 69, 3) := by decide +kernel
theorem dX8_addRow_274 : decode cX8_addRow 274 = .ok (.iload 10, 2) := by decide +kernel
theorem dX8_addRow_276 : decode cX8_addRow 276 = .ok (.iconst 2, 1) := by decide +kernel
theorem dX8_addRow_277 : decode cX8_addRow 277 = .ok (.iadd, 1) := by decide +kernel
theorem dX8_addRow_278 : decode cX8_addRow 278 = .ok (.aload_n 0, 1) := by decide +kernel
theorem dX8_addRow_279 : decode cX8_addRow 279 = .ok (.getfield 19, 3) := by decide +kernel
theorem dX8_addRow_282 : decode cX8_addRow 282 = .ok (.iload 9, 2) := by decide +kernel
theorem dX8_addRow_284 : decode cX8_addRow 284 = .ok (.iaload, 1) := by decide +kernel
theorem dX8_addRow_285 : decode cX8_addRow 285 = .ok (.iload 11, 2) := by decide +kernel
theorem dX8_addRow_287 : decode cX8_addRow 287 = .ok (.bipush 6, 2) := by decide +kernel
theorem dX8_addRow_289 : decode cX8_addRow 289 = .ok (.if_icmp .le 11, 3) := by decide +kernel
theorem dX8_addRow_292 : decode cX8_addRow 292 = .ok (.iload 11, 2) := by decide +kernel
theorem dX8_addRow_294 : decode cX8_addRow 294 = .ok (.bipush 12, 2) := by decide +kernel
theorem dX8_addRow_296 : decode cX8_addRow 296 = .ok (.isub, 1) := by decide +kernel
theorem dX8_addRow_297 : decode cX8_addRow 297 = .ok (.goto 5, 3) := by decide +kernel
theorem dX8_addRow_300 : decode cX8_addRow 300 = .ok (.iload 11, 2) := by decide +kernel
theorem dX8_addRow_302 : decode cX8_addRow 302 = .ok (.iadd, 1) := by decide +kernel
theorem dX8_addRow_303 : decode cX8_addRow 303 = .ok (.bipush 12, 2) := by decide +kernel
theorem dX8_addRow_305 : decode cX8_addRow 305 = .ok (.aload_n 0, 1) := by decide +kernel
theorem dX8_addRow_306 : decode cX8_addRow 306 = .ok (.getfield 35, 3) := by decide +kernel
theorem dX8_addRow_309 : decode cX8_addRow 309 = .ok (.iload_n 1, 1) := by decide +kernel
theorem dX8_addRow_310 : decode cX8_addRow 310 = .ok (.iaload, 1) := by decide +kernel
theorem dX8_addRow_311 : decode cX8_addRow 311 = .ok (.imul, 1) := by decide +kernel
theorem dX8_addRow_312 : decode cX8_addRow 312 = .ok (.iadd, 1) := by decide +kernel
theorem dX8_addRow_313 : decode cX8_addRow 313 = .ok (.iastore, 1) := by decide +kernel
theorem dX8_addRow_314 : decode cX8_addRow 314 = .ok (.aload_n 0, 1) := by decide +kernel
theorem dX8_addRow_315 : decode cX8_addRow 315 = .ok (.getfield 22, 3) := by decide +kernel
theorem dX8_addRow_318 : decode cX8_addRow 318 = .ok (.iload 9, 2) := by decide +kernel
theorem dX8_addRow_320 : decode cX8_addRow 320 = .ok (.iaload, 1) := by decide +kernel
theorem dX8_addRow_321 : decode cX8_addRow 321 = .ok (.aload_n 0, 1) := by decide +kernel
theorem dX8_addRow_322 : decode cX8_addRow 322 = .ok (.getfield 32, 3) := by decide +kernel
theorem dX8_addRow_325 : decode cX8_addRow 325 = .ok (.iload_n 1, 1) := by decide +kernel
theorem dX8_addRow_326 : decode cX8_addRow 326 = .ok (.iaload, 1) := by decide +kernel
theorem dX8_addRow_327 : decode cX8_addRow 327 = .ok (.iadd, 1) := by decide +kernel
theorem dX8_addRow_328 : decode cX8_addRow 328 = .ok (.aload_n 0, 1) := by decide +kernel
theorem dX8_addRow_329 : decode cX8_addRow 329 = .ok (.iload_n 1, 1) := by decide +kernel
theorem dX8_addRow_330 : decode cX8_addRow 330 = .ok (.iload_n 3, 1) := by decide +kernel
theorem dX8_addRow_331 : decode cX8_addRow 331 = .ok (.invokevirtual 130, 3) := by decide +kernel
theorem dX8_addRow_334 : decode cX8_addRow 334 = .ok (.iadd, 1) := by decide +kernel
theorem dX8_addRow_335 : decode cX8_addRow 335 = .ok (.istore 12, 2) := by decide +kernel
theorem dX8_addRow_337 : decode cX8_addRow 337 = .ok (.iload 12, 2) := by decide +kernel
theorem dX8_addRow_339 : decode cX8_addRow 339 = .ok (.bipush 19, 2) := by decide +kernel
theorem dX8_addRow_341 : decode cX8_addRow 341 = .ok (.if_icmp .le 9, 3) := by decide +kernel
theorem dX8_addRow_344 : decode cX8_addRow 344 = .ok (.iinc 12 (-12), 3) := by decide +kernel
theorem dX8_addRow_347 : decode cX8_addRow 347 = .ok (.goto (-10), 3) := by decide +kernel
theorem dX8_addRow_350 : decode cX8_addRow 350 = .ok (.iload 12, 2) := by decide +kernel
theorem dX8_addRow_352 : decode cX8_addRow 352 = .ok (.bipush (-15), 2) := by decide +kernel
theorem dX8_addRow_354 : decode cX8_addRow 354 = .ok (.if_icmp .ge 9, 3) := by decide +kernel
theorem dX8_addRow_357 : decode cX8_addRow 357 = .ok (.iinc 12 12, 3) := by decide +kernel
theorem dX8_addRow_360 : decode cX8_addRow 360 = .ok (.goto (-10), 3) := by decide +kernel
theorem dX8_addRow_363 : decode cX8_addRow 363 = .ok (.aload_n 0, 1) := by decide +kernel
theorem dX8_addRow_364 : decode cX8_addRow 364 = .ok (.getfield 69, 3) := by decide +kernel
theorem dX8_addRow_367 : decode cX8_addRow 367 = .ok (.iload 10, 2) := by decide +kernel
theorem dX8_addRow_369 : decode cX8_addRow 369 = .ok (.iconst 3, 1) := by decide +kernel
theorem dX8_addRow_370 : decode cX8_addRow 370 = .ok (.iadd, 1) := by decide +kernel
theorem dX8_addRow_371 : decode cX8_addRow 371 = .ok (.iload 12, 2) := by decide +kernel
theorem dX8_addRow_373 : decode cX8_addRow 373 = .ok (.iastore, 1) := by decide +kernel
theorem dX8_addRow_374 : decode cX8_addRow 374 = .ok (.iinc 8 1, 3) := by decide +kernel
theorem dX8_addRow_377 : decode cX8_addRow 377 = .ok (.goto (-192), 3) := by decide +kernel
theorem dX8_addRow_380 : decode cX8_addRow 380 = .ok (.return_, 1) := by decide +kernel
set_option maxRecDepth 20000 in
theorem ggX8_isTacet_X8_isEmpty : GoodIn wsX8_isTacet wsX8_isEmpty := goodIn_r _ [6, 7, 8, 9, 10, 11, 12, 13, 14, 15, 16, 17, 18, 19, 20, 21, 22, 23, 24, 25, 26, 27, 28, 29, 30, 31, 32, 33, 34, 35, 36, 37, 38, 39, 40, 41, 42, 43] (by decide +kernel) (by decide +kernel)
set_option maxRecDepth 20000 in
theorem gX8_isTacet_X8_isEmpty : GoodIn wsX8_isTacet (wsV RX8 133 RX8 yX8_isEmpty wsX8_isEmpty) := goodIn_app (goodIn_of _ (by decide +kernel)) ggX8_isTacet_X8_isEmpty
theorem dX8_isTacet_0 : decode cX8_isTacet 0 = .ok (.iconst 1, 1) := by decide +kernel
theorem dX8_isTacet_1 : decode cX8_isTacet 1 = .ok (.istore_n 2, 1) := by decide +kernel
theorem dX8_isTacet_2 : decode cX8_isTacet 2 = .ok (.iconst 0, 1) := by decide +kernel
theorem dX8_isTacet_3 : decode cX8_isTacet 3 = .ok (.istore_n 3, 1) := by decide +kernel
theorem dX8_isTacet_4 : decode cX8_isTacet 4 = .ok (.iload_n 3, 1) := by decide +kernel
theorem dX8_isTacet_5 : decode cX8_isTacet 5 = .ok (.aload_n 0, 1) := by decide +kernel
theorem dX8_isTacet_6 : decode cX8_isTacet 6 = .ok (.getfield 112, 3) := by decide +kernel
theorem dX8_isTacet_9 : decode cX8_isTacet 9 = .ok (.if_icmp .ge 28, 3) := by decide +kernel
theorem dX8_isTacet_12 : decode cX8_isTacet 12 = .ok (.iload_n 2, 1) := by decide +kernel
theorem dX8_isTacet_13 : decode cX8_isTacet 13 = .ok (.ifCond .eq 16, 3) := by decide +kernel
theorem dX8_isTacet_16 : decode cX8_isTacet 16 = .ok (.aload_n 0, 1) := by decide +kernel
theorem dX8_isTacet_17 : decode cX8_isTacet 17 = .ok (.iload_n 1, 1) := by decide +kernel
theorem dX8_isTacet_18 : decode cX8_isTacet 18 = .ok (.iload_n 3, 1) := by decide +kernel
theorem dX8_isTacet_19 : decode cX8_isTacet 19 = .ok (.invokevirtual 133, 3) := by decide +kernel
theorem dX8_isTacet_22 : decode cX8_isTacet 22 = .ok (.ifCond .eq 7, 3) := by decide +kernel
theorem dX8_isTacet_25 : decode cX8_isTacet 25 = .ok (.iconst 1, 1) := by decide +kernel
theorem dX8_isTacet_26 : decode cX8_isTacet 26 = .ok (.goto 4, 3) := by decide +kernel
theorem dX8_isTacet_29 : decode cX8_isTacet 29 = .ok (.iconst 0, 1) := by decide +kernel
theorem dX8_isTacet_30 : decode cX8_isTacet 30 = .ok (.istore_n 2, 1) := by decide +kernel
theorem dX8_isTacet_31 : decode cX8_isTacet 31 = .ok (.iinc 3 1, 3) := by decide +kernel
theorem dX8_isTacet_34 : decode cX8_isTacet 34 = .ok (.goto (-30), 3) := by decide +kernel
theorem dX8_isTacet_37 : decode cX8_isTacet 37 = .ok (.iload_n 2, 1) := by decide +kernel
theorem dX8_isTacet_38 : decode cX8_isTacet 38 = .ok (.ireturn, 1) := by decide +kernel
set_option maxRecDepth 20000 in
theorem ggX8_make_X8_isTacet : GoodIn wsX8_make wsX8_isTacet := goodIn_r _ [7, 2, 8, 9, 10, 6, 11, 12, 62, 63, 64, 65, 66, 67, 68, 69, 70, 71, 72, 73, 74, 75, 76, 77, 78, 79, 80, 81, 82, 83, 84, 85, 86, 87, 88, 89, 90, 91, 92, 93, 94, 95, 96, 97] (by decide +kernel) (by decide +kernel)
set_option maxRecDepth 20000 in
theorem gX8_make_X8_isTacet : GoodIn wsX8_make (wsV RX8 146 RX8 yX8_isTacet wsX8_isTacet) := goodIn_app (goodIn_of _ (by decide +kernel)) ggX8_make_X8_isTacet
set_option maxRecDepth 20000 in
theorem ggX8_make_X8_addRow : GoodIn wsX8_make wsX8_addRow := goodIn_r _ [16, 1, 17, 18, 19, 20, 21, 22, 23, 12, 24, 25, 26, 27, 28, 29, 30, 31, 32, 33, 6, 34, 35, 36, 37, 38, 39, 40, 41, 42, 43, 44, 45, 46, 47, 48, 49, 50, 51, 52, 53, 54, 55, 62, 63, 64, 65, 66, 67, 68, 69, 70, 71, 72, 73, 74, 75, 76, 77, 78, 79, 80, 81, 82, 83, 84, 85, 86, 87, 88, 89, 90, 91, 92, 93, 94, 95, 96, 97] (by decide +kernel) (by decide +kernel)
set_option maxRecDepth 20000 in
theorem gX8_make_X8_addRow : GoodIn wsX8_make (wsV RX8 149 RX8 yX8_addRow wsX8_addRow) := goodIn_app (goodIn_of _ (by decide +kernel)) ggX8_make_X8_addRow
set_option maxRecDepth 20000 in
theorem ggX8_make_X8_cueOf : GoodIn wsX8_make wsX8_cueOf := goodIn_r _ [59, 2, 60, 61, 12, 8, 9, 10, 6, 11, 62, 63, 64, 65, 66, 67, 68, 69, 70, 71, 72, 73, 74, 75, 76, 77, 78, 79, 80, 81, 82, 83, 84, 85, 86, 87, 88, 89, 90, 91, 92, 93, 94, 95, 96, 97] (by decide +kernel) (by decide +kernel)
set_option maxRecDepth 20000 in
theorem gX8_make_X8_cueOf : GoodIn wsX8_make (wsV RX8 153 RX8 yX8_cueOf wsX8_cueOf) := goodIn_app (goodIn_of _ (by decide +kernel)) ggX8_make_X8_cueOf
set_option maxRecDepth 20000 in
theorem ggX8_make_X8_isEmpty : GoodIn wsX8_make wsX8_isEmpty := goodIn_r _ [11, 12, 62, 63, 64, 65, 66, 67, 68, 69, 70, 71, 72, 73, 74, 75, 76, 77, 78, 79, 80, 81, 82, 83, 84, 85, 86, 87, 88, 89, 90, 91, 92, 93, 94, 95, 96, 97] (by decide +kernel) (by decide +kernel)
set_option maxRecDepth 20000 in
theorem gX8_make_X8_isEmpty : GoodIn wsX8_make (wsV RX8 133 RX8 yX8_isEmpty wsX8_isEmpty) := goodIn_app (goodIn_of _ (by decide +kernel)) ggX8_make_X8_isEmpty
set_option maxRecDepth 20000 in
theorem ggX8_make_X8_isNeeded : GoodIn wsX8_make wsX8_isNeeded := goodIn_r _ [52, 39, 62, 63, 64, 65, 66, 67, 68, 69, 70, 71, 72, 73, 74, 75, 76, 77, 78, 79, 80, 81, 82, 83, 84, 85, 86, 87, 88, 89, 90, 91, 92, 93, 94, 95, 96, 97] (by decide +kernel) (by decide +kernel)
set_option maxRecDepth 20000 in
theorem gX8_make_X8_isNeeded : GoodIn wsX8_make (wsV RX8 143 RX8 yX8_isNeeded wsX8_isNeeded) := goodIn_app (goodIn_of _ (by decide +kernel)) ggX8_make_X8_isNeeded
theorem dX8_make_0 : decode cX8_make 0 = .ok (.aload_n 0, 1) := by decide +kernel
theorem dX8_make_1 : decode cX8_make 1 = .ok (.getfield 45, 3) := by decide +kernel
theorem dX8_make_4 : decode cX8_make 4 = .ok (.bipush 6, 2) := by decide +kernel
theorem dX8_make_6 : decode cX8_make 6 = .ok (.iconst 0, 1) := by decide +kernel
theorem dX8_make_7 : decode cX8_make 7 = .ok (.iastore, 1) := by decide +kernel
theorem dX8_make_8 : decode cX8_make 8 = .ok (.aload_n 0, 1) := by decide +kernel
theorem dX8_make_9 : decode cX8_make 9 = .ok (.iload_n 1, 1) := by decide +kernel
theorem dX8_make_10 : decode cX8_make 10 = .ok (.invokevirtual 146, 3) := by decide +kernel
theorem dX8_make_13 : decode cX8_make 13 = .ok (.ifCond .eq 24, 3) := by decide +kernel
theorem dX8_make_16 : decode cX8_make 16 = .ok (.aload_n 0, 1) := by decide +kernel
theorem dX8_make_17 : decode cX8_make 17 = .ok (.getfield 112, 3) := by decide +kernel
theorem dX8_make_20 : decode cX8_make 20 = .ok (.ifCond .le 16, 3) := by decide +kernel
theorem dX8_make_23 : decode cX8_make 23 = .ok (.aload_n 0, 1) := by decide +kernel
theorem dX8_make_24 : decode cX8_make 24 = .ok (.iload_n 1, 1) := by decide +kernel
theorem dX8_make_25 : decode cX8_make 25 = .ok (.iconst 3, 1) := by decide +kernel
theorem dX8_make_26 : decode cX8_make 26 = .ok (.iconst 0, 1) := by decide +kernel
theorem dX8_make_27 : decode cX8_make 27 = .ok (.aload_n 0, 1) := by decide +kernel
theorem dX8_make_28 : decode cX8_make 28 = .ok (.getfield 112, 3) := by decide +kernel
theorem dX8_make_31 : decode cX8_make 31 = .ok (.bipush (-100), 2) := by decide +kernel
theorem dX8_make_33 : decode cX8_make 33 = .ok (.invokevirtual 149, 3) := by decide +kernel
theorem dX8_make_36 : decode cX8_make 36 = .ok (.return_, 1) := by decide +kernel
theorem dX8_make_37 : decode cX8_make 37 = .ok (.iconst 0, 1) := by decide +kernel
theorem dX8_make_38 : decode cX8_make 38 = .ok (.istore_n 2, 1) := by decide +kernel
theorem dX8_make_39 : decode cX8_make 39 = .ok (.iload_n 2, 1) := by decide +kernel
theorem dX8_make_40 : decode cX8_make 40 = .ok (.aload_n 0, 1) := by decide +kernel
theorem dX8_make_41 : decode cX8_make 41 = .ok (.getfield 112, 3) := by decide +kernel
theorem dX8_make_44 : decode cX8_make 44 = .ok (.if_icmp .ge 125, 3) := by decide +kernel
theorem dX8_make_47 : decode cX8_make 47 = .ok (.aload_n 0, 1) := by decide +kernel
theorem dX8_make_48 : decode cX8_make 48 = .ok (.iload_n 1, 1) := by decide +kernel
theorem dX8_make_49 : decode cX8_make 49 = .ok (.iload_n 2, 1) := by decide +kernel
theorem dX8_make_50 : decode cX8_make 50 = .ok (.invokevirtual 153, 3) := by decide +kernel
theorem dX8_make_53 : decode cX8_make 53 = .ok (.istore_n 3, 1) := by decide +kernel
theorem dX8_make_54 : decode cX8_make 54 = .ok (.aload_n 0, 1) := by decide +kernel
theorem dX8_make_55 : decode cX8_make 55 = .ok (.iload_n 1, 1) := by decide +kernel
theorem dX8_make_56 : decode cX8_make 56 = .ok (.iload_n 2, 1) := by decide +kernel
theorem dX8_make_57 : decode cX8_make 57 = .ok (.invokevirtual 133, 3) := by decide +kernel
theorem dX8_make_60 : decode cX8_make 60 = .ok (.ifCond .ne 18, 3) := by decide +kernel
theorem dX8_make_63 : decode cX8_make 63 = .ok (.aload_n 0, 1) := by decide +kernel
theorem dX8_make_64 : decode cX8_make 64 = .ok (.iload_n 1, 1) := by decide +kernel
theorem dX8_make_65 : decode cX8_make 65 = .ok (.iconst 0, 1) := by decide +kernel
theorem dX8_make_66 : decode cX8_make 66 = .ok (.iload_n 2, 1) := by decide +kernel
theorem dX8_make_67 : decode cX8_make 67 = .ok (.iconst 1, 1) := by decide +kernel
theorem dX8_make_68 : decode cX8_make 68 = .ok (.iload_n 1, 1) := by decide +kernel
theorem dX8_make_69 : decode cX8_make 69 = .ok (.invokevirtual 149, 3) := by decide +kernel
theorem dX8_make_72 : decode cX8_make 72 = .ok (.iinc 2 1, 3) := by decide +kernel
theorem dX8_make_75 : decode cX8_make 75 = .ok (.goto 91, 3) := by decide +kernel
theorem dX8_make_78 : decode cX8_make 78 = .ok (.iload_n 3, 1) := by decide +kernel
theorem dX8_make_79 : decode cX8_make 79 = .ok (.bipush (-100), 2) := by decide +kernel
theorem dX8_make_81 : decode cX8_make 81 = .ok (.if_icmp .eq 18, 3) := by decide +kernel
theorem dX8_make_84 : decode cX8_make 84 = .ok (.aload_n 0, 1) := by decide +kernel
theorem dX8_make_85 : decode cX8_make 85 = .ok (.iload_n 1, 1) := by decide +kernel
theorem dX8_make_86 : decode cX8_make 86 = .ok (.iconst 2, 1) := by decide +kernel
theorem dX8_make_87 : decode cX8_make 87 = .ok (.iload_n 2, 1) := by decide +kernel
theorem dX8_make_88 : decode cX8_make 88 = .ok (.iconst 1, 1) := by decide +kernel
theorem dX8_make_89 : decode cX8_make 89 = .ok (.iload_n 3, 1) := by decide +kernel
theorem dX8_make_90 : decode cX8_make 90 = .ok (.invokevirtual 149, 3) := by decide +kernel
theorem dX8_make_93 : decode cX8_make 93 = .ok (.iinc 2 1, 3) := by decide +kernel
theorem dX8_make_96 : decode cX8_make 96 = .ok (.goto 70, 3) := by decide +kernel
theorem dX8_make_99 : decode cX8_make 99 = .ok (.iload_n 2, 1) := by decide +kernel
theorem dX8_make_100 : decode cX8_make 100 = .ok (.iconst 1, 1) := by decide +kernel
theorem dX8_make_101 : decode cX8_make 101 = .ok (.iadd, 1) := by decide +kernel
theorem dX8_make_102 : decode cX8_make 102 = .ok (.istore 4, 2) := by decide +kernel
theorem dX8_make_104 : decode cX8_make 104 = .ok (.iload 4, 2) := by decide +kernel
theorem dX8_make_106 : decode cX8_make 106 = .ok (.aload_n 0, 1) := by decide +kernel
theorem dX8_make_107 : decode cX8_make 107 = .ok (.getfield 112, 3) := by decide +kernel
theorem dX8_make_110 : decode cX8_make 110 = .ok (.if_icmp .ge 40, 3) := by decide +kernel
theorem dX8_make_113 : decode cX8_make 113 = .ok (.aload_n 0, 1) := by decide +kernel
theorem dX8_make_114 : decode cX8_make 114 = .ok (.iload_n 1, 1) := by decide +kernel
theorem dX8_make_115 : decode cX8_make 115 = .ok (.iload 4, 2) := by decide +kernel
theorem dX8_make_117 : decode cX8_make 117 = .ok (.invokevirtual 133, 3) := by decide +kernel
theorem dX8_make_120 : decode cX8_make 120 = .ok (.ifCond .eq 30, 3) := by decide +kernel
theorem dX8_make_123 : decode cX8_make 123 = .ok (.aload_n 0, 1) := by decide +kernel
theorem dX8_make_124 : decode cX8_make 124 = .ok (.iload 4, 2) := by decide +kernel
theorem dX8_make_126 : decode cX8_make 126 = .ok (.invokevirtual 143, 3) := by decide +kernel
theorem dX8_make_129 : decode cX8_make 129 = .ok (.ifCond .ne 21, 3) := by decide +kernel
theorem dX8_make_132 : decode cX8_make 132 = .ok (.aload_n 0, 1) := by decide +kernel
theorem dX8_make_133 : decode cX8_make 133 = .ok (.iload_n 1, 1) := by decide +kernel
theorem dX8_make_134 : decode cX8_make 134 = .ok (.iload 4, 2) := by decide +kernel
theorem dX8_make_136 : decode cX8_make 136 = .ok (.invokevirtual 153, 3) := by decide +kernel
theorem dX8_make_139 : decode cX8_make 139 = .ok (.bipush (-100), 2) := by decide +kernel
theorem dX8_make_141 : decode cX8_make 141 = .ok (.if_icmp .ne 9, 3) := by decide +kernel
theorem dX8_make_144 : decode cX8_make 144 = .ok (.iinc 4 1, 3) := by decide +kernel
theorem dX8_make_147 : decode cX8_make 147 = .ok (.goto (-43), 3) := by decide +kernel
theorem dX8_make_150 : decode cX8_make 150 = .ok (.aload_n 0, 1) := by decide +kernel
theorem dX8_make_151 : decode cX8_make 151 = .ok (.iload_n 1, 1) := by decide +kernel
theorem dX8_make_152 : decode cX8_make 152 = .ok (.iconst 1, 1) := by decide +kernel
theorem dX8_make_153 : decode cX8_make 153 = .ok (.iload_n 2, 1) := by decide +kernel
theorem dX8_make_154 : decode cX8_make 154 = .ok (.iload 4, 2) := by decide +kernel
theorem dX8_make_156 : decode cX8_make 156 = .ok (.iload_n 2, 1) := by decide +kernel
theorem dX8_make_157 : decode cX8_make 157 = .ok (.isub, 1) := by decide +kernel
theorem dX8_make_158 : decode cX8_make 158 = .ok (.bipush (-100), 2) := by decide +kernel
theorem dX8_make_160 : decode cX8_make 160 = .ok (.invokevirtual 149, 3) := by decide +kernel
theorem dX8_make_163 : decode cX8_make 163 = .ok (.iload 4, 2) := by decide +kernel
theorem dX8_make_165 : decode cX8_make 165 = .ok (.istore_n 2, 1) := by decide +kernel
theorem dX8_make_166 : decode cX8_make 166 = .ok (.goto (-127), 3) := by decide +kernel
theorem dX8_make_169 : decode cX8_make 169 = .ok (.return_, 1) := by decide +kernel
theorem dX8_keep_0 : decode cX8_keep 0 = .ok (.aload_n 0, 1) := by decide +kernel
theorem dX8_keep_1 : decode cX8_keep 1 = .ok (.getfield 42, 3) := by decide +kernel
theorem dX8_keep_4 : decode cX8_keep 4 = .ok (.iload_n 1, 1) := by decide +kernel
theorem dX8_keep_5 : decode cX8_keep 5 = .ok (.iconst 1, 1) := by decide +kernel
theorem dX8_keep_6 : decode cX8_keep 6 = .ok (.bastore, 1) := by decide +kernel
theorem dX8_keep_7 : decode cX8_keep 7 = .ok (.aload_n 0, 1) := by decide +kernel
theorem dX8_keep_8 : decode cX8_keep 8 = .ok (.getfield 45, 3) := by decide +kernel
theorem dX8_keep_11 : decode cX8_keep 11 = .ok (.iload_n 1, 1) := by decide +kernel
theorem dX8_keep_12 : decode cX8_keep 12 = .ok (.aload_n 0, 1) := by decide +kernel
theorem dX8_keep_13 : decode cX8_keep 13 = .ok (.getfield 45, 3) := by decide +kernel
theorem dX8_keep_16 : decode cX8_keep 16 = .ok (.bipush 6, 2) := by decide +kernel
theorem dX8_keep_18 : decode cX8_keep 18 = .ok (.iaload, 1) := by decide +kernel
theorem dX8_keep_19 : decode cX8_keep 19 = .ok (.iastore, 1) := by decide +kernel
theorem dX8_keep_20 : decode cX8_keep 20 = .ok (.iconst 0, 1) := by decide +kernel
theorem dX8_keep_21 : decode cX8_keep 21 = .ok (.istore_n 2, 1) := by decide +kernel
theorem dX8_keep_22 : decode cX8_keep 22 = .ok (.iload_n 2, 1) := by decide +kernel
theorem dX8_keep_23 : decode cX8_keep 23 = .ok (.aload_n 0, 1) := by decide +kernel
theorem dX8_keep_24 : decode cX8_keep 24 = .ok (.getfield 45, 3) := by decide +kernel
theorem dX8_keep_27 : decode cX8_keep 27 = .ok (.bipush 6, 2) := by decide +kernel
theorem dX8_keep_29 : decode cX8_keep 29 = .ok (.iaload, 1) := by decide +kernel
theorem dX8_keep_30 : decode cX8_keep 30 = .ok (.if_icmp .ge 155, 3) := by decide +kernel
theorem dX8_keep_33 : decode cX8_keep 33 = .ok (.bipush 40, 2) := by decide +kernel
theorem dX8_keep_35 : decode cX8_keep 35 = .ok (.iload_n 1, 1) := by decide +kernel
theorem dX8_keep_36 : decode cX8_keep 36 = .ok (.imul, 1) := by decide +kernel
theorem dX8_keep_37 : decode cX8_keep 37 = .ok (.iload_n 2, 1) := by decide +kernel
theorem dX8_keep_38 : decode cX8_keep 38 = .ok (.iadd, 1) := by decide +kernel
theorem dX8_keep_39 : decode cX8_keep 39 = .ok (.istore_n 3, 1) := by decide +kernel
theorem dX8_keep_40 : decode cX8_keep 40 = .ok (.sipush 240, 3) := by decide +kernel
theorem dX8_keep_43 : decode cX8_keep 43 = .ok (.iload_n 2, 1) := by decide +kernel
theorem dX8_keep_44 : decode cX8_keep 44 = .ok (.iadd, 1) := by decide +kernel
theorem dX8_keep_45 : decode cX8_keep 45 = .ok (.istore 4, 2) := by decide +kernel
theorem dX8_keep_47 : decode cX8_keep 47 = .ok (.aload_n 0, 1) := by decide +kernel
theorem dX8_keep_48 : decode cX8_keep 48 = .ok (.getfield 48, 3) := by decide +kernel
theorem dX8_keep_51 : decode cX8_keep 51 = .ok (.iload_n 3, 1) := by decide +kernel
theorem dX8_keep_52 : decode cX8_keep 52 = .ok (.aload_n 0, 1) := by decide +kernel
theorem dX8_keep_53 : decode cX8_keep 53 = .ok (.getfield 48, 3) := by decide +kernel
theorem dX8_keep_56 : decode cX8_keep 56 = .ok (.iload 4, 2) := by decide +kernel
theorem dX8_keep_58 : decode cX8_keep 58 = .ok (.iaload, 1) := by decide +kernel
theorem dX8_keep_59 : decode cX8_keep 59 = .ok (.iastore, 1) := by decide +kernel
theorem dX8_keep_60 : decode cX8_keep 60 = .ok (.aload_n 0, 1) := by decide +kernel
theorem dX8_keep_61 : decode cX8_keep 61 = .ok (.getfield 51, 3) := by decide +kernel
theorem dX8_keep_64 : decode cX8_keep 64 = .ok (.iload_n 3, 1) := by decide +kernel
theorem dX8_keep_65 : decode cX8_keep 65 = .ok (.aload_n 0, 1) := by decide +kernel
theorem dX8_keep_66 : decode cX8_keep 66 = .ok (.getfield 51, 3) := by decide +kernel
theorem dX8_keep_69 : decode cX8_keep 69 = .ok (.iload 4, 2) := by decide +kernel
theorem dX8_keep_71 : decode cX8_keep 71 = .ok (.iaload, 1) := by decide +kernel
theorem dX8_keep_72 : decode cX8_keep 72 = .ok (.iastore, 1) := by decide +kernel
theorem dX8_keep_73 : decode cX8_keep 73 = .ok (.aload_n 0, 1) := by decide +kernel
theorem dX8_keep_74 : decode cX8_keep 74 = .ok (.getfield 54, 3) := by decide +kernel
theorem dX8_keep_77 : decode cX8_keep 77 = .ok (.iload_n 3, 1) := by decide +kernel
theorem dX8_keep_78 : decode cX8_keep 78 = .ok (.aload_n 0, 1) := by decide +kernel
theorem dX8_keep_79 : decode cX8_keep 79 = .ok (.getfield 54, 3) := by decide +kernel
theorem dX8_keep_82 : decode cX8_keep 82 = .ok (.iload 4, 2) := by decide +kernel
theorem dX8_keep_84 : decode cX8_keep 84 = .ok (.iaload, 1) := by decide +kernel
theorem dX8_keep_85 : decode cX8_keep 85 = .ok (.iastore, 1) := by decide +kernel
theorem dX8_keep_86 : decode cX8_keep 86 = .ok (.aload_n 0, 1) := by decide +kernel
theorem dX8_keep_87 : decode cX8_keep 87 = .ok (.getfield 57, 3) := by decide +kernel
theorem dX8_keep_90 : decode cX8_keep 90 = .ok (.iload_n 3, 1) := by decide +kernel
theorem dX8_keep_91 : decode cX8_keep 91 = .ok (.aload_n 0, 1) := by decide +kernel
theorem dX8_keep_92 : decode cX8_keep 92 = .ok (.getfield 57, 3) := by decide +kernel
theorem dX8_keep_95 : decode cX8_keep 95 = .ok (.iload 4, 2) := by decide +kernel
theorem dX8_keep_97 : decode cX8_keep 97 = .ok (.iaload, 1) := by decide +kernel
theorem dX8_keep_98 : decode cX8_keep 98 = .ok (.iastore, 1) := by decide +kernel
theorem dX8_keep_99 : decode cX8_keep 99 = .ok (.aload_n 0, 1) := by decide +kernel
theorem dX8_keep_100 : decode cX8_keep 100 = .ok (.getfield 60, 3) := by decide +kernel
theorem dX8_keep_103 : decode cX8_keep 103 = .ok (.iload_n 3, 1) := by decide +kernel
theorem dX8_keep_104 : decode cX8_keep 104 = .ok (.aload_n 0, 1) := by decide +kernel
theorem dX8_keep_105 : decode cX8_keep 105 = .ok (.getfield 60, 3) := by decide +kernel
theorem dX8_keep_108 : decode cX8_keep 108 = .ok (.iload 4, 2) := by decide +kernel
theorem dX8_keep_110 : decode cX8_keep 110 = .ok (.iaload, 1) := by decide +kernel
theorem dX8_keep_111 : decode cX8_keep 111 = .ok (.iastore, 1) := by decide +kernel
theorem dX8_keep_112 : decode cX8_keep 112 = .ok (.aload_n 0, 1) := by decide +kernel
theorem dX8_keep_113 : decode cX8_keep 113 = .ok (.getfield 63, 3) := by decide +kernel
theorem dX8_keep_116 : decode cX8_keep 116 = .ok (.iload_n 3, 1) := by decide +kernel
theorem dX8_keep_117 : decode cX8_keep 117 = .ok (.aload_n 0, 1) := by decide +kernel
theorem dX8_keep_118 : decode cX8_keep 118 = .ok (.getfield 63, 3) := by decide +kernel
theorem dX8_keep_121 : decode cX8_keep 121 = .ok (.iload 4, 2) := by decide +kernel
theorem dX8_keep_123 : decode cX8_keep 123 = .ok (.iaload, 1) := by decide +kernel
theorem dX8_keep_124 : decode cX8_keep 124 = .ok (.iastore, 1) := by decide +kernel
theorem dX8_keep_125 : decode cX8_keep 125 = .ok (.aload_n 0, 1) := by decide +kernel
theorem dX8_keep_126 : decode cX8_keep 126 = .ok (.getfield 66, 3) := by decide +kernel
theorem dX8_keep_129 : decode cX8_keep 129 = .ok (.iload_n 3, 1) := by decide +kernel
theorem dX8_keep_130 : decode cX8_keep 130 = .ok (.aload_n 0, 1) := by decide +kernel
theorem dX8_keep_131 : decode cX8_keep 131 = .ok (.getfield 66, 3) := by decide +kernel
theorem dX8_keep_134 : decode cX8_keep 134 = .ok (.iload 4, 2) := by decide +kernel
theorem dX8_keep_136 : decode cX8_keep 136 = .ok (.iaload, 1) := by decide +kernel
theorem dX8_keep_137 : decode cX8_keep 137 = .ok (.iastore, 1) := by decide +kernel
theorem dX8_keep_138 : decode cX8_keep 138 = .ok (.iconst 0, 1) := by decide +kernel
theorem dX8_keep_139 : decode cX8_keep 139 = .ok (.istore 5, 2) := by decide +kernel
theorem dX8_keep_141 : decode cX8_keep 141 = .ok (.iload 5, 2) := by decide +kernel
theorem dX8_keep_143 : decode cX8_keep 143 = .ok (.bipush 32, 2) := by decide +kernel
theorem dX8_keep_145 : decode cX8_keep 145 = .ok (.if_icmp .ge 34, 3) := by decide +kernel
theorem dX8_keep_148 : decode cX8_keep 148 = .ok (.aload_n 0, 1) := by decide +kernel
theorem dX8_keep_149 : decode cX8_keep 149 = .ok (.getfield 69, 3) := by decide +kernel
theorem dX8_keep_152 : decode cX8_keep 152 = .ok (.bipush 32, 2) := by decide +kernel
theorem dX8_keep_154 : decode cX8_keep 154 = .ok (.iload_n 3, 1) := by decide +kernel
theorem dX8_keep_155 : decode cX8_keep 155 = .ok (.imul, 1) := by decide +kernel
theorem dX8_keep_156 : decode cX8_keep 156 = .ok (.iload 5, 2) := by decide +kernel
theorem dX8_keep_158 : decode cX8_keep 158 = .ok (.iadd, 1) := by decide +kernel
theorem dX8_keep_159 : decode cX8_keep 159 = .ok (.aload_n 0, 1) := by decide +kernel
theorem dX8_keep_160 : decode cX8_keep 160 = .ok (.getfield 69, 3) := by decide +kernel
theorem dX8_keep_163 : decode cX8_keep 163 = .ok (.bipush 32, 2) := by decide +kernel
theorem dX8_keep_165 : decode cX8_keep 165 = .ok (.iload 4, 2) := by decide +kernel
theorem dX8_keep_167 : decode cX8_keep 167 = .ok (.imul, 1) := by decide +kernel
theorem dX8_keep_168 : decode cX8_keep 168 = .ok (.iload 5, 2) := by decide +kernel
theorem dX8_keep_170 : decode cX8_keep 170 = .ok (.iadd, 1) := by decide +kernel
theorem dX8_keep_171 : decode cX8_keep 171 = .ok (.iaload, 1) := by decide +kernel
theorem dX8_keep_172 : decode cX8_keep 172 = .ok (.iastore, 1) := by decide +kernel
theorem dX8_keep_173 : decode cX8_keep 173 = .ok (.iinc 5 1, 3) := by decide +kernel
theorem dX8_keep_176 : decode cX8_keep 176 = .ok (.goto (-35), 3) := by decide +kernel
theorem dX8_keep_179 : decode cX8_keep 179 = .ok (.iinc 2 1, 3) := by decide +kernel
theorem dX8_keep_182 : decode cX8_keep 182 = .ok (.goto (-160), 3) := by decide +kernel
theorem dX8_keep_185 : decode cX8_keep 185 = .ok (.return_, 1) := by decide +kernel
theorem dX8_isLike_0 : decode cX8_isLike 0 = .ok (.aload_n 0, 1) := by decide +kernel
theorem dX8_isLike_1 : decode cX8_isLike 1 = .ok (.getfield 48, 3) := by decide +kernel
theorem dX8_isLike_4 : decode cX8_isLike 4 = .ok (.iload_n 1, 1) := by decide +kernel
theorem dX8_isLike_5 : decode cX8_isLike 5 = .ok (.iaload, 1) := by decide +kernel
theorem dX8_isLike_6 : decode cX8_isLike 6 = .ok (.aload_n 0, 1) := by decide +kernel
theorem dX8_isLike_7 : decode cX8_isLike 7 = .ok (.getfield 48, 3) := by decide +kernel
theorem dX8_isLike_10 : decode cX8_isLike 10 = .ok (.iload_n 2, 1) := by decide +kernel
theorem dX8_isLike_11 : decode cX8_isLike 11 = .ok (.iaload, 1) := by decide +kernel
theorem dX8_isLike_12 : decode cX8_isLike 12 = .ok (.if_icmp .ne 97, 3) := by decide +kernel
theorem dX8_isLike_15 : decode cX8_isLike 15 = .ok (.aload_n 0, 1) := by decide +kernel
theorem dX8_isLike_16 : decode cX8_isLike 16 = .ok (.getfield 51, 3) := by decide +kernel
theorem dX8_isLike_19 : decode cX8_isLike 19 = .ok (.iload_n 1, 1) := by decide +kernel
theorem dX8_isLike_20 : decode cX8_isLike 20 = .ok (.iaload, 1) := by decide +kernel
theorem dX8_isLike_21 : decode cX8_isLike 21 = .ok (.aload_n 0, 1) := by decide +kernel
theorem dX8_isLike_22 : decode cX8_isLike 22 = .ok (.getfield 51, 3) := by decide +kernel
theorem dX8_isLike_25 : decode cX8_isLike 25 = .ok (.iload_n 2, 1) := by decide +kernel
theorem dX8_isLike_26 : decode cX8_isLike 26 = .ok (.iaload, 1) := by decide +kernel
theorem dX8_isLike_27 : decode cX8_isLike 27 = .ok (.if_icmp .ne 82, 3) := by decide +kernel
theorem dX8_isLike_30 : decode cX8_isLike 30 = .ok (.aload_n 0, 1) := by decide +kernel
theorem dX8_isLike_31 : decode cX8_isLike 31 = .ok (.getfield 54, 3) := by decide +kernel
theorem dX8_isLike_34 : decode cX8_isLike 34 = .ok (.iload_n 1, 1) := by decide +kernel
theorem dX8_isLike_35 : decode cX8_isLike 35 = .ok (.iaload, 1) := by decide +kernel
theorem dX8_isLike_36 : decode cX8_isLike 36 = .ok (.aload_n 0, 1) := by decide +kernel
theorem dX8_isLike_37 : decode cX8_isLike 37 = .ok (.getfield 54, 3) := by decide +kernel
theorem dX8_isLike_40 : decode cX8_isLike 40 = .ok (.iload_n 2, 1) := by decide +kernel
theorem dX8_isLike_41 : decode cX8_isLike 41 = .ok (.iaload, 1) := by decide +kernel
theorem dX8_isLike_42 : decode cX8_isLike 42 = .ok (.if_icmp .ne 67, 3) := by decide +kernel
theorem dX8_isLike_45 : decode cX8_isLike 45 = .ok (.aload_n 0, 1) := by decide +kernel
theorem dX8_isLike_46 : decode cX8_isLike 46 = .ok (.getfield 57, 3) := by decide +kernel
theorem dX8_isLike_49 : decode cX8_isLike 49 = .ok (.iload_n 1, 1) := by decide +kernel
theorem dX8_isLike_50 : decode cX8_isLike 50 = .ok (.iaload, 1) := by decide +kernel
theorem dX8_isLike_51 : decode cX8_isLike 51 = .ok (.aload_n 0, 1) := by decide +kernel
theorem dX8_isLike_52 : decode cX8_isLike 52 = .ok (.getfield 57, 3) := by decide +kernel
theorem dX8_isLike_55 : decode cX8_isLike 55 = .ok (.iload_n 2, 1) := by decide +kernel
theorem dX8_isLike_56 : decode cX8_isLike 56 = .ok (.iaload, 1) := by decide +kernel
theorem dX8_isLike_57 : decode cX8_isLike 57 = .ok (.if_icmp .ne 52, 3) := by decide +kernel
theorem dX8_isLike_60 : decode cX8_isLike 60 = .ok (.aload_n 0, 1) := by decide +kernel
theorem dX8_isLike_61 : decode cX8_isLike 61 = .ok (.getfield 60, 3) := by decide +kernel
theorem dX8_isLike_64 : decode cX8_isLike 64 = .ok (.iload_n 1, 1) := by decide +kernel
theorem dX8_isLike_65 : decode cX8_isLike 65 = .ok (.iaload, 1) := by decide +kernel
theorem dX8_isLike_66 : decode cX8_isLike 66 = .ok (.aload_n 0, 1) := by decide +kernel
theorem dX8_isLike_67 : decode cX8_isLike 67 = .ok (.getfield 60, 3) := by decide +kernel
theorem dX8_isLike_70 : decode cX8_isLike 70 = .ok (.iload_n 2, 1) := by decide +kernel
theorem dX8_isLike_71 : decode cX8_isLike 71 = .ok (.iaload, 1) := by decide +kernel
theorem dX8_isLike_72 : decode cX8_isLike 72 = .ok (.if_icmp .ne 37, 3) := by decide +kernel
theorem dX8_isLike_75 : decode cX8_isLike 75 = .ok (.aload_n 0, 1) := by decide +kernel
theorem dX8_isLike_76 : decode cX8_isLike 76 = .ok (.getfield 63, 3) := by decide +kernel
theorem dX8_isLike_79 : decode cX8_isLike 79 = .ok (.iload_n 1, 1) := by decide +kernel
theorem dX8_isLike_80 : decode cX8_isLike 80 = .ok (.iaload, 1) := by decide +kernel
theorem dX8_isLike_81 : decode cX8_isLike 81 = .ok (.aload_n 0, 1) := by decide +kernel
theorem dX8_isLike_82 : decode cX8_isLike 82 = .ok (.getfield 63, 3) := by decide +kernel
theorem dX8_isLike_85 : decode cX8_isLike 85 = .ok (.iload_n 2, 1) := by decide +kernel
theorem dX8_isLike_86 : decode cX8_isLike 86 = .ok (.iaload, 1) := by decide +kernel
theorem dX8_isLike_87 : decode cX8_isLike 87 = .ok (.if_icmp .ne 22, 3) := by decide +kernel
theorem dX8_isLike_90 : decode cX8_isLike 90 = .ok (.aload_n 0, 1) := by decide +kernel
theorem dX8_isLike_91 : decode cX8_isLike 91 = .ok (.getfield 66, 3) := by decide +kernel
theorem dX8_isLike_94 : decode cX8_isLike 94 = .ok (.iload_n 1, 1) := by decide +kernel
theorem dX8_isLike_95 : decode cX8_isLike 95 = .ok (.iaload, 1) := by decide +kernel
theorem dX8_isLike_96 : decode cX8_isLike 96 = .ok (.aload_n 0, 1) := by decide +kernel
theorem dX8_isLike_97 : decode cX8_isLike 97 = .ok (.getfield 66, 3) := by decide +kernel
theorem dX8_isLike_100 : decode cX8_isLike 100 = .ok (.iload_n 2, 1) := by decide +kernel
theorem dX8_isLike_101 : decode cX8_isLike 101 = .ok (.iaload, 1) := by decide +kernel
theorem dX8_isLike_102 : decode cX8_isLike 102 = .ok (.if_icmp .ne 7, 3) := by decide +kernel
theorem dX8_isLike_105 : decode cX8_isLike 105 = .ok (.iconst 1, 1) := by decide +kernel
theorem dX8_isLike_106 : decode cX8_isLike 106 = .ok (.goto 4, 3) := by decide +kernel
theorem dX8_isLike_109 : decode cX8_isLike 109 = .ok (.iconst 0, 1) := by decide +kernel
theorem dX8_isLike_110 : decode cX8_isLike 110 = .ok (.istore_n 3, 1) := by decide +kernel
theorem dX8_isLike_111 : decode cX8_isLike 111 = .ok (.iconst 0, 1) := by decide +kernel
theorem dX8_isLike_112 : decode cX8_isLike 112 = .ok (.istore 4, 2) := by decide +kernel
theorem dX8_isLike_114 : decode cX8_isLike 114 = .ok (.iload 4, 2) := by decide +kernel
theorem dX8_isLike_116 : decode cX8_isLike 116 = .ok (.iconst 4, 1) := by decide +kernel
theorem dX8_isLike_117 : decode cX8_isLike 117 = .ok (.aload_n 0, 1) := by decide +kernel
theorem dX8_isLike_118 : decode cX8_isLike 118 = .ok (.getfield 66, 3) := by decide +kernel
theorem dX8_isLike_121 : decode cX8_isLike 121 = .ok (.iload_n 1, 1) := by decide +kernel
theorem dX8_isLike_122 : decode cX8_isLike 122 = .ok (.iaload, 1) := by decide +kernel
theorem dX8_isLike_123 : decode cX8_isLike 123 = .ok (.imul, 1) := by decide +kernel
theorem dX8_isLike_124 : decode cX8_isLike 124 = .ok (.if_icmp .ge 46, 3) := by decide +kernel
theorem dX8_isLike_127 : decode cX8_isLike 127 = .ok (.iload_n 3, 1) := by decide +kernel
theorem dX8_isLike_128 : decode cX8_isLike 128 = .ok (.ifCond .eq 34, 3) := by decide +kernel
theorem dX8_isLike_131 : decode cX8_isLike 131 = .ok (.aload_n 0, 1) := by decide +kernel
theorem dX8_isLike_132 : decode cX8_isLike 132 = .ok (.getfield 69, 3) := by decide +kernel
theorem dX8_isLike_135 : decode cX8_isLike 135 = .ok (.bipush 32, 2) := by decide +kernel
theorem dX8_isLike_137 : decode cX8_isLike 137 = .ok (.iload_n 1, 1) := by decide +kernel
theorem dX8_isLike_138 : decode cX8_isLike 138 = .ok (.imul, 1) := by decide +kernel
theorem dX8_isLike_139 : decode cX8_isLike 139 = .ok (.iload 4, 2) := by decide +kernel
theorem dX8_isLike_141 : decode cX8_isLike 141 = .ok (.iadd, 1) := by decide +kernel
theorem dX8_isLike_142 : decode cX8_isLike 142 = .ok (.iaload, 1) := by decide +kernel
theorem dX8_isLike_143 : decode cX8_isLike 143 = .ok (.aload_n 0, 1) := by decide +kernel
theorem dX8_isLike_144 : decode cX8_isLike 144 = .ok (.getfield 69, 3) := by decide +kernel
theorem dX8_isLike_147 : decode cX8_isLike 147 = .ok (.bipush 32, 2) := by decide +kernel
theorem dX8_isLike_149 : decode cX8_isLike 149 = .ok (.iload_n 2, 1) := by decide +kernel
theorem dX8_isLike_150 : decode cX8_isLike 150 = .ok (.imul, 1) := by decide +kernel
theorem dX8_isLike_151 : decode cX8_isLike 151 = .ok (.iload 4, 2) := by decide +kernel
theorem dX8_isLike_153 : decode cX8_isLike 153 = .ok (.iadd, 1) := by decide +kernel
theorem dX8_isLike_154 : decode cX8_isLike 154 = .ok (.iaload, 1) := by decide +kernel
theorem dX8_isLike_155 : decode cX8_isLike 155 = .ok (.if_icmp .ne 7, 3) := by decide +kernel
theorem dX8_isLike_158 : decode cX8_isLike 158 = .ok (.iconst 1, 1) := by decide +kernel
theorem dX8_isLike_159 : decode cX8_isLike 159 = .ok (.goto 4, 3) := by decide +kernel
theorem dX8_isLike_162 : decode cX8_isLike 162 = .ok (.iconst 0, 1) := by decide +kernel
theorem dX8_isLike_163 : decode cX8_isLike 163 = .ok (.istore_n 3, 1) := by decide +kernel
theorem dX8_isLike_164 : decode cX8_isLike 164 = .ok (.iinc 4 1, 3) := by decide +kernel
theorem dX8_isLike_167 : decode cX8_isLike 167 = .ok (.goto (-53), 3) := by decide +kernel
theorem dX8_isLike_170 : decode cX8_isLike 170 = .ok (.iload_n 3, 1) := by decide +kernel
theorem dX8_isLike_171 : decode cX8_isLike 171 = .ok (.ireturn, 1) := by decide +kernel
set_option maxRecDepth 20000 in
theorem ggX8_isPart_X8_isVoice : GoodIn wsX8_isPart wsX8_isVoice := goodIn_r _ [6, 7, 8, 9, 5, 10, 11, 12, 13, 14, 15, 16, 17, 18, 19, 20, 21, 22, 23, 24, 25, 26, 27, 28, 29, 30, 31, 32, 33, 34, 35, 36, 37, 38, 39, 40, 41, 42, 43, 44, 45, 46] (by decide +kernel) (by decide +kernel)
set_option maxRecDepth 20000 in
theorem gX8_isPart_X8_isVoice : GoodIn wsX8_isPart (wsV RX8 115 RX8 yX8_isVoice wsX8_isVoice) := goodIn_app (goodIn_of _ (by decide +kernel)) ggX8_isPart_X8_isVoice
theorem dX8_isPart_0 : decode cX8_isPart 0 = .ok (.aload_n 0, 1) := by decide +kernel
theorem dX8_isPart_1 : decode cX8_isPart 1 = .ok (.iload_n 1, 1) := by decide +kernel
theorem dX8_isPart_2 : decode cX8_isPart 2 = .ok (.invokevirtual 115, 3) := by decide +kernel
theorem dX8_isPart_5 : decode cX8_isPart 5 = .ok (.ifCond .eq 16, 3) := by decide +kernel
theorem dX8_isPart_8 : decode cX8_isPart 8 = .ok (.aload_n 0, 1) := by decide +kernel
theorem dX8_isPart_9 : decode cX8_isPart 9 = .ok (.getfield 42, 3) := by decide +kernel
theorem dX8_isPart_12 : decode cX8_isPart 12 = .ok (.iload_n 1, 1) := by decide +kernel
theorem dX8_isPart_13 : decode cX8_isPart 13 = .ok (.baload, 1) := by decide +kernel
theorem dX8_isPart_14 : decode cX8_isPart 14 = .ok (.ifCond .eq 7, 3) := by decide +kernel
theorem dX8_isPart_17 : decode cX8_isPart 17 = .ok (.iconst 1, 1) := by decide +kernel
theorem dX8_isPart_18 : decode cX8_isPart 18 = .ok (.goto 4, 3) := by decide +kernel
theorem dX8_isPart_21 : decode cX8_isPart 21 = .ok (.iconst 0, 1) := by decide +kernel
theorem dX8_isPart_22 : decode cX8_isPart 22 = .ok (.ireturn, 1) := by decide +kernel
set_option maxRecDepth 20000 in
theorem ggX8_extract_X8_isVoice : GoodIn wsX8_extract wsX8_isVoice := goodIn_r _ [6, 7, 8, 9, 5, 10, 78, 79, 80, 81, 82, 83, 84, 85, 86, 87, 88, 89, 90, 91, 92, 93, 94, 95, 96, 97, 98, 99, 100, 101, 102, 103, 104, 105, 106, 107, 108, 109, 110, 111, 112, 113] (by decide +kernel) (by decide +kernel)
set_option maxRecDepth 20000 in
theorem gX8_extract_X8_isVoice : GoodIn wsX8_extract (wsV RX8 115 RX8 yX8_isVoice wsX8_isVoice) := goodIn_app (goodIn_of _ (by decide +kernel)) ggX8_extract_X8_isVoice
set_option maxRecDepth 20000 in
theorem ggX8_extract_X8_make : GoodIn wsX8_extract wsX8_make := goodIn_r _ [14, 1, 15, 16, 17, 18, 5, 19, 20, 21, 22, 23, 24, 25, 26, 27, 28, 29, 30, 31, 32, 33, 34, 35, 36, 37, 38, 39, 40, 41, 42, 43, 44, 45, 46, 47, 48, 49, 50, 51, 52, 53, 54, 55, 56, 57, 58, 59, 60, 61, 62, 63, 64, 65, 66, 67, 68, 69, 70, 71, 7, 72, 78, 79, 80, 81, 82, 83, 84, 85, 86, 87, 88, 89, 90, 91, 92, 93, 94, 95, 96, 97, 98, 99, 100, 101, 102, 103, 104, 105, 106, 107, 108, 109, 110, 111, 112, 113] (by decide +kernel) (by decide +kernel)
set_option maxRecDepth 20000 in
theorem gX8_extract_X8_make : GoodIn wsX8_extract (wsV RX8 156 RX8 yX8_make wsX8_make) := goodIn_app (goodIn_of _ (by decide +kernel)) ggX8_extract_X8_make
set_option maxRecDepth 20000 in
theorem ggX8_extract_X8_keep : GoodIn wsX8_extract wsX8_keep := goodIn_r _ [76, 77, 1, 29, 30, 31, 34, 33, 32, 35, 37, 78, 79, 80, 81, 82, 83, 84, 85, 86, 87, 88, 89, 90, 91, 92, 93, 94, 95, 96, 97, 98, 99, 100, 101, 102, 103, 104, 105, 106, 107, 108, 109, 110, 111, 112, 113] (by decide +kernel) (by decide +kernel)
set_option maxRecDepth 20000 in
theorem gX8_extract_X8_keep : GoodIn wsX8_extract (wsV RX8 160 RX8 yX8_keep wsX8_keep) := goodIn_app (goodIn_of _ (by decide +kernel)) ggX8_extract_X8_keep
theorem dX8_extract_0 : decode cX8_extract 0 = .ok (.aload_n 0, 1) := by decide +kernel
theorem dX8_extract_1 : decode cX8_extract 1 = .ok (.iload_n 1, 1) := by decide +kernel
theorem dX8_extract_2 : decode cX8_extract 2 = .ok (.invokevirtual 115, 3) := by decide +kernel
theorem dX8_extract_5 : decode cX8_extract 5 = .ok (.ifCond .ne 6, 3) := by decide +kernel
theorem dX8_extract_8 : decode cX8_extract 8 = .ok (.bipush (-101), 2) := by decide +kernel
theorem dX8_extract_10 : decode cX8_extract 10 = .ok (.ireturn, 1) := by decide +kernel
theorem dX8_extract_11 : decode cX8_extract 11 = .ok (.aload_n 0, 1) := by decide +kernel
theorem dX8_extract_12 : decode cX8_extract 12 = .ok (.iload_n 1, 1) := by decide +kernel
theorem dX8_extract_13 : decode cX8_extract 13 = .ok (.invokevirtual 156, 3) := by decide +kernel
theorem dX8_extract_16 : decode cX8_extract 16 = .ok (.aload_n 0, 1) := by decide +kernel
theorem dX8_extract_17 : decode cX8_extract 17 = .ok (.iload_n 1, 1) := by decide +kernel
theorem dX8_extract_18 : decode cX8_extract 18 = .ok (.invokevirtual 160, 3) := by decide +kernel
theorem dX8_extract_21 : decode cX8_extract 21 = .ok (.aload_n 0, 1) := by decide +kernel
theorem dX8_extract_22 : decode cX8_extract 22 = .ok (.getfield 45, 3) := by decide +kernel
theorem dX8_extract_25 : decode cX8_extract 25 = .ok (.iload_n 1, 1) := by decide +kernel
theorem dX8_extract_26 : decode cX8_extract 26 = .ok (.iaload, 1) := by decide +kernel
theorem dX8_extract_27 : decode cX8_extract 27 = .ok (.ireturn, 1) := by decide +kernel
set_option maxRecDepth 20000 in
theorem ggX8_row_X8_isPart : GoodIn wsX8_row wsX8_isPart := goodIn_r _ [13, 14, 15, 16, 17, 12, 18, 19, 20, 21, 22, 23, 24, 25, 26, 27, 28, 29, 30, 31, 32, 33, 34, 35, 36, 37, 38, 39, 40, 41, 42, 43, 44, 45, 46, 47, 48, 49, 50, 51, 52, 53, 54, 55, 56, 57, 58] (by decide +kernel) (by decide +kernel)
set_option maxRecDepth 20000 in
theorem gX8_row_X8_isPart : GoodIn wsX8_row (wsV RX8 163 RX8 yX8_isPart wsX8_isPart) := goodIn_app (goodIn_of _ (by decide +kernel)) ggX8_row_X8_isPart
set_option maxRecDepth 20000 in
theorem ggX8_row_X8_in : GoodIn wsX8_row wsX8_in := goodIn_r _ [22] (by decide +kernel) (by decide +kernel)
set_option maxRecDepth 20000 in
theorem gX8_row_X8_in : GoodIn wsX8_row (va_wsS RX8 108 yX8_in wsX8_in) := goodIn_app (goodIn_of _ (by decide +kernel)) ggX8_row_X8_in
theorem dX8_row_0 : decode cX8_row 0 = .ok (.aload_n 0, 1) := by decide +kernel
theorem dX8_row_1 : decode cX8_row 1 = .ok (.iload_n 1, 1) := by decide +kernel
theorem dX8_row_2 : decode cX8_row 2 = .ok (.invokevirtual 163, 3) := by decide +kernel
theorem dX8_row_5 : decode cX8_row 5 = .ok (.ifCond .eq 19, 3) := by decide +kernel
theorem dX8_row_8 : decode cX8_row 8 = .ok (.iload_n 2, 1) := by decide +kernel
theorem dX8_row_9 : decode cX8_row 9 = .ok (.iconst 0, 1) := by decide +kernel
theorem dX8_row_10 : decode cX8_row 10 = .ok (.aload_n 0, 1) := by decide +kernel
theorem dX8_row_11 : decode cX8_row 11 = .ok (.getfield 45, 3) := by decide +kernel
theorem dX8_row_14 : decode cX8_row 14 = .ok (.iload_n 1, 1) := by decide +kernel
theorem dX8_row_15 : decode cX8_row 15 = .ok (.iaload, 1) := by decide +kernel
theorem dX8_row_16 : decode cX8_row 16 = .ok (.iconst 1, 1) := by decide +kernel
theorem dX8_row_17 : decode cX8_row 17 = .ok (.isub, 1) := by decide +kernel
theorem dX8_row_18 : decode cX8_row 18 = .ok (.invokestatic 108, 3) := by decide +kernel
theorem dX8_row_21 : decode cX8_row 21 = .ok (.ifCond .ne 6, 3) := by decide +kernel
theorem dX8_row_24 : decode cX8_row 24 = .ok (.bipush (-101), 2) := by decide +kernel
theorem dX8_row_26 : decode cX8_row 26 = .ok (.ireturn, 1) := by decide +kernel
theorem dX8_row_27 : decode cX8_row 27 = .ok (.bipush 40, 2) := by decide +kernel
theorem dX8_row_29 : decode cX8_row 29 = .ok (.iload_n 1, 1) := by decide +kernel
theorem dX8_row_30 : decode cX8_row 30 = .ok (.imul, 1) := by decide +kernel
theorem dX8_row_31 : decode cX8_row 31 = .ok (.iload_n 2, 1) := by decide +kernel
theorem dX8_row_32 : decode cX8_row 32 = .ok (.iadd, 1) := by decide +kernel
theorem dX8_row_33 : decode cX8_row 33 = .ok (.istore 4, 2) := by decide +kernel
theorem dX8_row_35 : decode cX8_row 35 = .ok (.iload_n 3, 1) := by decide +kernel
theorem dX8_row_36 : decode cX8_row 36 = .ok (.tableswitch 100 0 6 #[44, 52, 60, 68, 76, 84, 92], 44) := by decide +kernel
theorem dX8_row_80 : decode cX8_row 80 = .ok (.aload_n 0, 1) := by decide +kernel
theorem dX8_row_81 : decode cX8_row 81 = .ok (.getfield 48, 3) := by decide +kernel
theorem dX8_row_84 : decode cX8_row 84 = .ok (.iload 4, 2) := by decide +kernel
theorem dX8_row_86 : decode cX8_row 86 = .ok (.iaload, 1) := by decide +kernel
theorem dX8_row_87 : decode cX8_row 87 = .ok (.ireturn, 1) := by decide +kernel
theorem dX8_row_88 : decode cX8_row 88 = .ok (.aload_n 0, 1) := by decide +kernel
theorem dX8_row_89 : decode cX8_row 89 = .ok (.getfield 51, 3) := by decide +kernel
theorem dX8_row_92 : decode cX8_row 92 = .ok (.iload 4, 2) := by decide +kernel
theorem dX8_row_94 : decode cX8_row 94 = .ok (.iaload, 1) := by decide +kernel
theorem dX8_row_95 : decode cX8_row 95 = .ok (.ireturn, 1) := by decide +kernel
theorem dX8_row_96 : decode cX8_row 96 = .ok (.aload_n 0, 1) := by decide +kernel
theorem dX8_row_97 : decode cX8_row 97 = .ok (.getfield 54, 3) := by decide +kernel
theorem dX8_row_100 : decode cX8_row 100 = .ok (.iload 4, 2) := by decide +kernel
theorem dX8_row_102 : decode cX8_row 102 = .ok (.iaload, 1) := by decide +kernel
theorem dX8_row_103 : decode cX8_row 103 = .ok (.ireturn, 1) := by decide +kernel
theorem dX8_row_104 : decode cX8_row 104 = .ok (.aload_n 0, 1) := by decide +kernel
theorem dX8_row_105 : decode cX8_row 105 = .ok (.getfield 57, 3) := by decide +kernel
theorem dX8_row_108 : decode cX8_row 108 = .ok (.iload 4, 2) := by decide +kernel
theorem dX8_row_110 : decode cX8_row 110 = .ok (.iaload, 1) := by decide +kernel
theorem dX8_row_111 : decode cX8_row 111 = .ok (.ireturn, 1) := by decide +kernel
theorem dX8_row_112 : decode cX8_row 112 = .ok (.aload_n 0, 1) := by decide +kernel
theorem dX8_row_113 : decode cX8_row 113 = .ok (.getfield 60, 3) := by decide +kernel
theorem dX8_row_116 : decode cX8_row 116 = .ok (.iload 4, 2) := by decide +kernel
theorem dX8_row_118 : decode cX8_row 118 = .ok (.iaload, 1) := by decide +kernel
theorem dX8_row_119 : decode cX8_row 119 = .ok (.ireturn, 1) := by decide +kernel
theorem dX8_row_120 : decode cX8_row 120 = .ok (.aload_n 0, 1) := by decide +kernel
theorem dX8_row_121 : decode cX8_row 121 = .ok (.getfield 66, 3) := by decide +kernel
theorem dX8_row_124 : decode cX8_row 124 = .ok (.iload 4, 2) := by decide +kernel
theorem dX8_row_126 : decode cX8_row 126 = .ok (.iaload, 1) := by decide +kernel
theorem dX8_row_127 : decode cX8_row 127 = .ok (.ireturn, 1) := by decide +kernel
theorem dX8_row_128 : decode cX8_row 128 = .ok (.aload_n 0, 1) := by decide +kernel
theorem dX8_row_129 : decode cX8_row 129 = .ok (.getfield 63, 3) := by decide +kernel
theorem dX8_row_132 : decode cX8_row 132 = .ok (.iload 4, 2) := by decide +kernel
theorem dX8_row_134 : decode cX8_row 134 = .ok (.iaload, 1) := by decide +kernel
theorem dX8_row_135 : decode cX8_row 135 = .ok (.ireturn, 1) := by decide +kernel
theorem dX8_row_136 : decode cX8_row 136 = .ok (.bipush (-102), 2) := by decide +kernel
theorem dX8_row_138 : decode cX8_row 138 = .ok (.ireturn, 1) := by decide +kernel
set_option maxRecDepth 20000 in
theorem ggX8_written_X8_isPart : GoodIn wsX8_written wsX8_isPart := goodIn_r _ [8, 9, 10, 11, 12, 7, 13, 14, 15, 16, 17, 18, 19, 20, 21, 22, 23, 24, 25, 26, 27, 28, 29, 30, 31, 32, 33, 34, 35, 36, 37, 38, 39, 40, 41, 42, 43, 44, 45, 46, 47, 48, 49, 50, 51, 52, 53] (by decide +kernel) (by decide +kernel)
set_option maxRecDepth 20000 in
theorem gX8_written_X8_isPart : GoodIn wsX8_written (wsV RX8 163 RX8 yX8_isPart wsX8_isPart) := goodIn_app (goodIn_of _ (by decide +kernel)) ggX8_written_X8_isPart
set_option maxRecDepth 20000 in
theorem ggX8_written_X8_in : GoodIn wsX8_written wsX8_in := goodIn_r _ [17] (by decide +kernel) (by decide +kernel)
set_option maxRecDepth 20000 in
theorem gX8_written_X8_in : GoodIn wsX8_written (va_wsS RX8 108 yX8_in wsX8_in) := goodIn_app (goodIn_of _ (by decide +kernel)) ggX8_written_X8_in
theorem dX8_written_0 : decode cX8_written 0 = .ok (.aload_n 0, 1) := by decide +kernel
theorem dX8_written_1 : decode cX8_written 1 = .ok (.iload_n 1, 1) := by decide +kernel
theorem dX8_written_2 : decode cX8_written 2 = .ok (.invokevirtual 163, 3) := by decide +kernel
theorem dX8_written_5 : decode cX8_written 5 = .ok (.ifCond .eq 40, 3) := by decide +kernel
theorem dX8_written_8 : decode cX8_written 8 = .ok (.iload_n 2, 1) := by decide +kernel
theorem dX8_written_9 : decode cX8_written 9 = .ok (.iconst 0, 1) := by decide +kernel
theorem dX8_written_10 : decode cX8_written 10 = .ok (.aload_n 0, 1) := by decide +kernel
theorem dX8_written_11 : decode cX8_written 11 = .ok (.getfield 45, 3) := by decide +kernel
theorem dX8_written_14 : decode cX8_written 14 = .ok (.iload_n 1, 1) := by decide +kernel
theorem dX8_written_15 : decode cX8_written 15 = .ok (.iaload, 1) := by decide +kernel
theorem dX8_written_16 : decode cX8_written 16 = .ok (.iconst 1, 1) := by decide +kernel
theorem dX8_written_17 : decode cX8_written 17 = .ok (.isub, 1) := by decide +kernel
theorem dX8_written_18 : decode cX8_written 18 = .ok (.invokestatic 108, 3) := by decide +kernel
theorem dX8_written_21 : decode cX8_written 21 = .ok (.ifCond .eq 24, 3) := by decide +kernel
theorem dX8_written_24 : decode cX8_written 24 = .ok (.iload_n 3, 1) := by decide +kernel
theorem dX8_written_25 : decode cX8_written 25 = .ok (.iconst 0, 1) := by decide +kernel
theorem dX8_written_26 : decode cX8_written 26 = .ok (.aload_n 0, 1) := by decide +kernel
theorem dX8_written_27 : decode cX8_written 27 = .ok (.getfield 66, 3) := by decide +kernel
theorem dX8_written_30 : decode cX8_written 30 = .ok (.bipush 40, 2) := by decide +kernel
theorem dX8_written_32 : decode cX8_written 32 = .ok (.iload_n 1, 1) := by decide +kernel
theorem dX8_written_33 : decode cX8_written 33 = .ok (.imul, 1) := by decide +kernel
theorem dX8_written_34 : decode cX8_written 34 = .ok (.iload_n 2, 1) := by decide +kernel
theorem dX8_written_35 : decode cX8_written 35 = .ok (.iadd, 1) := by decide +kernel
theorem dX8_written_36 : decode cX8_written 36 = .ok (.iaload, 1) := by decide +kernel
theorem dX8_written_37 : decode cX8_written 37 = .ok (.iconst 1, 1) := by decide +kernel
theorem dX8_written_38 : decode cX8_written 38 = .ok (.isub, 1) := by decide +kernel
theorem dX8_written_39 : decode cX8_written 39 = .ok (.invokestatic 108, 3) := by decide +kernel
theorem dX8_written_42 : decode cX8_written 42 = .ok (.ifCond .ne 6, 3) := by decide +kernel
theorem dX8_written_45 : decode cX8_written 45 = .ok (.bipush (-101), 2) := by decide +kernel
theorem dX8_written_47 : decode cX8_written 47 = .ok (.ireturn, 1) := by decide +kernel
theorem dX8_written_48 : decode cX8_written 48 = .ok (.iload 4, 2) := by decide +kernel
theorem dX8_written_50 : decode cX8_written 50 = .ok (.iconst 0, 1) := by decide +kernel
theorem dX8_written_51 : decode cX8_written 51 = .ok (.iconst 3, 1) := by decide +kernel
theorem dX8_written_52 : decode cX8_written 52 = .ok (.invokestatic 108, 3) := by decide +kernel
theorem dX8_written_55 : decode cX8_written 55 = .ok (.ifCond .eq 27, 3) := by decide +kernel
theorem dX8_written_58 : decode cX8_written 58 = .ok (.aload_n 0, 1) := by decide +kernel
theorem dX8_written_59 : decode cX8_written 59 = .ok (.getfield 69, 3) := by decide +kernel
theorem dX8_written_62 : decode cX8_written 62 = .ok (.bipush 32, 2) := by decide +kernel
theorem dX8_written_64 : decode cX8_written 64 = .ok (.bipush 40, 2) := by decide +kernel
theorem dX8_written_66 : decode cX8_written 66 = .ok (.iload_n 1, 1) := by decide +kernel
theorem dX8_written_67 : decode cX8_written 67 = .ok (.imul, 1) := by decide +kernel
theorem dX8_written_68 : decode cX8_written 68 = .ok (.iload_n 2, 1) := by decide +kernel
theorem dX8_written_69 : decode cX8_written 69 = .ok (.iadd, 1) := by decide +kernel
theorem dX8_written_70 : decode cX8_written 70 = .ok (.imul, 1) := by decide +kernel
theorem dX8_written_71 : decode cX8_written 71 = .ok (.iconst 4, 1) := by decide +kernel
theorem dX8_written_72 : decode cX8_written 72 = .ok (.iload_n 3, 1) := by decide +kernel
theorem dX8_written_73 : decode cX8_written 73 = .ok (.imul, 1) := by decide +kernel
theorem dX8_written_74 : decode cX8_written 74 = .ok (.iadd, 1) := by decide +kernel
theorem dX8_written_75 : decode cX8_written 75 = .ok (.iload 4, 2) := by decide +kernel
theorem dX8_written_77 : decode cX8_written 77 = .ok (.iadd, 1) := by decide +kernel
theorem dX8_written_78 : decode cX8_written 78 = .ok (.iaload, 1) := by decide +kernel
theorem dX8_written_79 : decode cX8_written 79 = .ok (.goto 5, 3) := by decide +kernel
theorem dX8_written_82 : decode cX8_written 82 = .ok (.bipush (-102), 2) := by decide +kernel
theorem dX8_written_84 : decode cX8_written 84 = .ok (.ireturn, 1) := by decide +kernel
set_option maxRecDepth 20000 in
theorem ggX8_unlike_X8_isPart : GoodIn wsX8_unlike wsX8_isPart := goodIn_r _ [6, 7, 8, 9, 10, 5, 11, 12, 13, 14, 15, 82, 83, 84, 85, 86, 87, 88, 89, 90, 91, 92, 93, 94, 95, 96, 97, 98, 99, 100, 101, 102, 103, 104, 105, 106, 107, 108, 109, 110, 111, 112, 113, 114, 115, 116, 117] (by decide +kernel) (by decide +kernel)
set_option maxRecDepth 20000 in
theorem gX8_unlike_X8_isPart : GoodIn wsX8_unlike (wsV RX8 163 RX8 yX8_isPart wsX8_isPart) := goodIn_app (goodIn_of _ (by decide +kernel)) ggX8_unlike_X8_isPart
set_option maxRecDepth 20000 in
theorem ggX8_unlike_X8_make : GoodIn wsX8_unlike wsX8_make := goodIn_r _ [19, 1, 20, 21, 22, 23, 5, 24, 25, 26, 27, 28, 29, 30, 31, 32, 33, 34, 35, 36, 37, 38, 39, 40, 41, 42, 43, 44, 45, 46, 47, 48, 49, 50, 51, 52, 53, 54, 55, 56, 57, 58, 59, 60, 61, 62, 63, 64, 65, 66, 67, 68, 69, 70, 71, 72, 73, 74, 75, 76, 12, 77, 82, 83, 84, 85, 86, 87, 88, 89, 90, 91, 92, 93, 94, 95, 96, 97, 98, 99, 100, 101, 102, 103, 104, 105, 106, 107, 108, 109, 110, 111, 112, 113, 114, 115, 116, 117] (by decide +kernel) (by decide +kernel)
set_option maxRecDepth 20000 in
theorem gX8_unlike_X8_make : GoodIn wsX8_unlike (wsV RX8 156 RX8 yX8_make wsX8_make) := goodIn_app (goodIn_of _ (by decide +kernel)) ggX8_unlike_X8_make
set_option maxRecDepth 20000 in
theorem ggX8_unlike_X8_isLike : GoodIn wsX8_unlike wsX8_isLike := goodIn_r _ [81, 34, 35, 36, 39, 38, 37, 40, 42, 82, 83, 84, 85, 86, 87, 88, 89, 90, 91, 92, 93, 94, 95, 96, 97, 98, 99, 100, 101, 102, 103, 104, 105, 106, 107, 108, 109, 110, 111, 112, 113, 114, 115, 116, 117] (by decide +kernel) (by decide +kernel)
set_option maxRecDepth 20000 in
theorem gX8_unlike_X8_isLike : GoodIn wsX8_unlike (wsV RX8 166 RX8 yX8_isLike wsX8_isLike) := goodIn_app (goodIn_of _ (by decide +kernel)) ggX8_unlike_X8_isLike
theorem dX8_unlike_0 : decode cX8_unlike 0 = .ok (.aload_n 0, 1) := by decide +kernel
theorem dX8_unlike_1 : decode cX8_unlike 1 = .ok (.iload_n 1, 1) := by decide +kernel
theorem dX8_unlike_2 : decode cX8_unlike 2 = .ok (.invokevirtual 163, 3) := by decide +kernel
theorem dX8_unlike_5 : decode cX8_unlike 5 = .ok (.ifCond .ne 6, 3) := by decide +kernel
theorem dX8_unlike_8 : decode cX8_unlike 8 = .ok (.bipush (-101), 2) := by decide +kernel
theorem dX8_unlike_10 : decode cX8_unlike 10 = .ok (.ireturn, 1) := by decide +kernel
theorem dX8_unlike_11 : decode cX8_unlike 11 = .ok (.aload_n 0, 1) := by decide +kernel
theorem dX8_unlike_12 : decode cX8_unlike 12 = .ok (.iload_n 1, 1) := by decide +kernel
theorem dX8_unlike_13 : decode cX8_unlike 13 = .ok (.invokevirtual 156, 3) := by decide +kernel
theorem dX8_unlike_16 : decode cX8_unlike 16 = .ok (.iconst 0, 1) := by decide +kernel
theorem dX8_unlike_17 : decode cX8_unlike 17 = .ok (.istore_n 2, 1) := by decide +kernel
theorem dX8_unlike_18 : decode cX8_unlike 18 = .ok (.iload_n 2, 1) := by decide +kernel
theorem dX8_unlike_19 : decode cX8_unlike 19 = .ok (.aload_n 0, 1) := by decide +kernel
theorem dX8_unlike_20 : decode cX8_unlike 20 = .ok (.getfield 45, 3) := by decide +kernel
theorem dX8_unlike_23 : decode cX8_unlike 23 = .ok (.iload_n 1, 1) := by decide +kernel
theorem dX8_unlike_24 : decode cX8_unlike 24 = .ok (.iaload, 1) := by decide +kernel
theorem dX8_unlike_25 : decode cX8_unlike 25 = .ok (.if_icmp .ge 38, 3) := by decide +kernel
theorem dX8_unlike_28 : decode cX8_unlike 28 = .ok (.iload_n 2, 1) := by decide +kernel
theorem dX8_unlike_29 : decode cX8_unlike 29 = .ok (.aload_n 0, 1) := by decide +kernel
theorem dX8_unlike_30 : decode cX8_unlike 30 = .ok (.getfield 45, 3) := by decide +kernel
theorem dX8_unlike_33 : decode cX8_unlike 33 = .ok (.bipush 6, 2) := by decide +kernel
theorem dX8_unlike_35 : decode cX8_unlike 35 = .ok (.iaload, 1) := by decide +kernel
theorem dX8_unlike_36 : decode cX8_unlike 36 = .ok (.if_icmp .ge 27, 3) := by decide +kernel
theorem dX8_unlike_39 : decode cX8_unlike 39 = .ok (.aload_n 0, 1) := by decide +kernel
theorem dX8_unlike_40 : decode cX8_unlike 40 = .ok (.bipush 40, 2) := by decide +kernel
theorem dX8_unlike_42 : decode cX8_unlike 42 = .ok (.iload_n 1, 1) := by decide +kernel
theorem dX8_unlike_43 : decode cX8_unlike 43 = .ok (.imul, 1) := by decide +kernel
theorem dX8_unlike_44 : decode cX8_unlike 44 = .ok (.iload_n 2, 1) := by decide +kernel
theorem dX8_unlike_45 : decode cX8_unlike 45 = .ok (.iadd, 1) := by decide +kernel
theorem dX8_unlike_46 : decode cX8_unlike 46 = .ok (.sipush 240, 3) := by decide +kernel
theorem dX8_unlike_49 : decode cX8_unlike 49 = .ok (.iload_n 2, 1) := by decide +kernel
theorem dX8_unlike_50 : decode cX8_unlike 50 = .ok (.iadd, 1) := by decide +kernel
theorem dX8_unlike_51 : decode cX8_unlike 51 = .ok (.invokevirtual 166, 3) := by decide +kernel
theorem dX8_unlike_54 : decode cX8_unlike 54 = .ok (.ifCond .eq 9, 3) := by decide +kernel
theorem dX8_unlike_57 : decode cX8_unlike 57 = .ok (.iinc 2 1, 3) := by decide +kernel
theorem dX8_unlike_60 : decode cX8_unlike 60 = .ok (.goto (-42), 3) := by decide +kernel
theorem dX8_unlike_63 : decode cX8_unlike 63 = .ok (.iload_n 2, 1) := by decide +kernel
theorem dX8_unlike_64 : decode cX8_unlike 64 = .ok (.aload_n 0, 1) := by decide +kernel
theorem dX8_unlike_65 : decode cX8_unlike 65 = .ok (.getfield 45, 3) := by decide +kernel
theorem dX8_unlike_68 : decode cX8_unlike 68 = .ok (.iload_n 1, 1) := by decide +kernel
theorem dX8_unlike_69 : decode cX8_unlike 69 = .ok (.iaload, 1) := by decide +kernel
theorem dX8_unlike_70 : decode cX8_unlike 70 = .ok (.if_icmp .ne 19, 3) := by decide +kernel
theorem dX8_unlike_73 : decode cX8_unlike 73 = .ok (.iload_n 2, 1) := by decide +kernel
theorem dX8_unlike_74 : decode cX8_unlike 74 = .ok (.aload_n 0, 1) := by decide +kernel
theorem dX8_unlike_75 : decode cX8_unlike 75 = .ok (.getfield 45, 3) := by decide +kernel
theorem dX8_unlike_78 : decode cX8_unlike 78 = .ok (.bipush 6, 2) := by decide +kernel
theorem dX8_unlike_80 : decode cX8_unlike 80 = .ok (.iaload, 1) := by decide +kernel
theorem dX8_unlike_81 : decode cX8_unlike 81 = .ok (.if_icmp .ne 8, 3) := by decide +kernel
theorem dX8_unlike_84 : decode cX8_unlike 84 = .ok (.bipush (-100), 2) := by decide +kernel
theorem dX8_unlike_86 : decode cX8_unlike 86 = .ok (.goto 4, 3) := by decide +kernel
theorem dX8_unlike_89 : decode cX8_unlike 89 = .ok (.iload_n 2, 1) := by decide +kernel
theorem dX8_unlike_90 : decode cX8_unlike 90 = .ok (.ireturn, 1) := by decide +kernel
set_option maxRecDepth 20000 in
theorem ggX8_tacet_X8_isVoice : GoodIn wsX8_tacet wsX8_isVoice := goodIn_r _ [5, 6, 7, 8, 4, 9, 20, 21, 22, 23, 24, 25, 26, 27, 28, 29, 30, 31, 32, 33, 34, 35, 36, 37, 38, 39, 40, 41, 42, 43, 44, 45, 46, 47, 48, 49, 50, 51, 52, 53, 54, 55] (by decide +kernel) (by decide +kernel)
set_option maxRecDepth 20000 in
theorem gX8_tacet_X8_isVoice : GoodIn wsX8_tacet (wsV RX8 115 RX8 yX8_isVoice wsX8_isVoice) := goodIn_app (goodIn_of _ (by decide +kernel)) ggX8_tacet_X8_isVoice
set_option maxRecDepth 20000 in
theorem ggX8_tacet_X8_isTacet : GoodIn wsX8_tacet wsX8_isTacet := goodIn_r _ [13, 14, 15, 16, 17, 4, 18, 19, 20, 21, 22, 23, 24, 25, 26, 27, 28, 29, 30, 31, 32, 33, 34, 35, 36, 37, 38, 39, 40, 41, 42, 43, 44, 45, 46, 47, 48, 49, 50, 51, 52, 53, 54, 55] (by decide +kernel) (by decide +kernel)
set_option maxRecDepth 20000 in
theorem gX8_tacet_X8_isTacet : GoodIn wsX8_tacet (wsV RX8 146 RX8 yX8_isTacet wsX8_isTacet) := goodIn_app (goodIn_of _ (by decide +kernel)) ggX8_tacet_X8_isTacet
theorem dX8_tacet_0 : decode cX8_tacet 0 = .ok (.aload_n 0, 1) := by decide +kernel
theorem dX8_tacet_1 : decode cX8_tacet 1 = .ok (.iload_n 1, 1) := by decide +kernel
theorem dX8_tacet_2 : decode cX8_tacet 2 = .ok (.invokevirtual 115, 3) := by decide +kernel
theorem dX8_tacet_5 : decode cX8_tacet 5 = .ok (.ifCond .eq 19, 3) := by decide +kernel
theorem dX8_tacet_8 : decode cX8_tacet 8 = .ok (.aload_n 0, 1) := by decide +kernel
theorem dX8_tacet_9 : decode cX8_tacet 9 = .ok (.iload_n 1, 1) := by decide +kernel
theorem dX8_tacet_10 : decode cX8_tacet 10 = .ok (.invokevirtual 146, 3) := by decide +kernel
theorem dX8_tacet_13 : decode cX8_tacet 13 = .ok (.ifCond .eq 7, 3) := by decide +kernel
theorem dX8_tacet_16 : decode cX8_tacet 16 = .ok (.iconst 1, 1) := by decide +kernel
theorem dX8_tacet_17 : decode cX8_tacet 17 = .ok (.goto 9, 3) := by decide +kernel
theorem dX8_tacet_20 : decode cX8_tacet 20 = .ok (.iconst 0, 1) := by decide +kernel
theorem dX8_tacet_21 : decode cX8_tacet 21 = .ok (.goto 5, 3) := by decide +kernel
theorem dX8_tacet_24 : decode cX8_tacet 24 = .ok (.bipush (-101), 2) := by decide +kernel
theorem dX8_tacet_26 : decode cX8_tacet 26 = .ok (.ireturn, 1) := by decide +kernel
theorem dX8_isLongRest_0 : decode cX8_isLongRest 0 = .ok (.aload_n 0, 1) := by decide +kernel
theorem dX8_isLongRest_1 : decode cX8_isLongRest 1 = .ok (.getfield 48, 3) := by decide +kernel
theorem dX8_isLongRest_4 : decode cX8_isLongRest 4 = .ok (.iload_n 1, 1) := by decide +kernel
theorem dX8_isLongRest_5 : decode cX8_isLongRest 5 = .ok (.iaload, 1) := by decide +kernel
theorem dX8_isLongRest_6 : decode cX8_isLongRest 6 = .ok (.iconst 1, 1) := by decide +kernel
theorem dX8_isLongRest_7 : decode cX8_isLongRest 7 = .ok (.if_icmp .ne 17, 3) := by decide +kernel
theorem dX8_isLongRest_10 : decode cX8_isLongRest 10 = .ok (.aload_n 0, 1) := by decide +kernel
theorem dX8_isLongRest_11 : decode cX8_isLongRest 11 = .ok (.getfield 54, 3) := by decide +kernel
theorem dX8_isLongRest_14 : decode cX8_isLongRest 14 = .ok (.iload_n 1, 1) := by decide +kernel
theorem dX8_isLongRest_15 : decode cX8_isLongRest 15 = .ok (.iaload, 1) := by decide +kernel
theorem dX8_isLongRest_16 : decode cX8_isLongRest 16 = .ok (.iconst 2, 1) := by decide +kernel
theorem dX8_isLongRest_17 : decode cX8_isLongRest 17 = .ok (.if_icmp .lt 7, 3) := by decide +kernel
theorem dX8_isLongRest_20 : decode cX8_isLongRest 20 = .ok (.iconst 1, 1) := by decide +kernel
theorem dX8_isLongRest_21 : decode cX8_isLongRest 21 = .ok (.goto 4, 3) := by decide +kernel
theorem dX8_isLongRest_24 : decode cX8_isLongRest 24 = .ok (.iconst 0, 1) := by decide +kernel
theorem dX8_isLongRest_25 : decode cX8_isLongRest 25 = .ok (.ireturn, 1) := by decide +kernel
theorem dX8_lines_0 : decode cX8_lines 0 = .ok (.aload_n 0, 1) := by decide +kernel
theorem dX8_lines_1 : decode cX8_lines 1 = .ok (.iconst 0, 1) := by decide +kernel
theorem dX8_lines_2 : decode cX8_lines 2 = .ok (.putfield 169, 3) := by decide +kernel
theorem dX8_lines_5 : decode cX8_lines 5 = .ok (.iconst 0, 1) := by decide +kernel
theorem dX8_lines_6 : decode cX8_lines 6 = .ok (.istore_n 2, 1) := by decide +kernel
theorem dX8_lines_7 : decode cX8_lines 7 = .ok (.iconst 0, 1) := by decide +kernel
theorem dX8_lines_8 : decode cX8_lines 8 = .ok (.istore_n 3, 1) := by decide +kernel
theorem dX8_lines_9 : decode cX8_lines 9 = .ok (.iload_n 3, 1) := by decide +kernel
theorem dX8_lines_10 : decode cX8_lines 10 = .ok (.aload_n 0, 1) := by decide +kernel
theorem dX8_lines_11 : decode cX8_lines 11 = .ok (.getfield 45, 3) := by decide +kernel
theorem dX8_lines_14 : decode cX8_lines 14 = .ok (.iload_n 1, 1) := by decide +kernel
theorem dX8_lines_15 : decode cX8_lines 15 = .ok (.iaload, 1) := by decide +kernel
theorem dX8_lines_16 : decode cX8_lines 16 = .ok (.if_icmp .ge 64, 3) := by decide +kernel
theorem dX8_lines_19 : decode cX8_lines 19 = .ok (.aload_n 0, 1) := by decide +kernel
theorem dX8_lines_20 : decode cX8_lines 20 = .ok (.getfield 57, 3) := by decide +kernel
theorem dX8_lines_23 : decode cX8_lines 23 = .ok (.bipush 40, 2) := by decide +kernel
theorem dX8_lines_25 : decode cX8_lines 25 = .ok (.iload_n 1, 1) := by decide +kernel
theorem dX8_lines_26 : decode cX8_lines 26 = .ok (.imul, 1) := by decide +kernel
theorem dX8_lines_27 : decode cX8_lines 27 = .ok (.iload_n 3, 1) := by decide +kernel
theorem dX8_lines_28 : decode cX8_lines 28 = .ok (.iadd, 1) := by decide +kernel
theorem dX8_lines_29 : decode cX8_lines 29 = .ok (.iaload, 1) := by decide +kernel
theorem dX8_lines_30 : decode cX8_lines 30 = .ok (.istore 4, 2) := by decide +kernel
theorem dX8_lines_32 : decode cX8_lines 32 = .ok (.iload_n 3, 1) := by decide +kernel
theorem dX8_lines_33 : decode cX8_lines 33 = .ok (.ifCond .eq 14, 3) := by decide +kernel
theorem dX8_lines_36 : decode cX8_lines 36 = .ok (.iload_n 2, 1) := by decide +kernel
theorem dX8_lines_37 : decode cX8_lines 37 = .ok (.iload 4, 2) := by decide +kernel
theorem dX8_lines_39 : decode cX8_lines 39 = .ok (.iadd, 1) := by decide +kernel
theorem dX8_lines_40 : decode cX8_lines 40 = .ok (.aload_n 0, 1) := by decide +kernel
theorem dX8_lines_41 : decode cX8_lines 41 = .ok (.getfield 72, 3) := by decide +kernel
theorem dX8_lines_44 : decode cX8_lines 44 = .ok (.if_icmp .le 25, 3) := by decide +kernel
theorem dX8_lines_47 : decode cX8_lines 47 = .ok (.aload_n 0, 1) := by decide +kernel
theorem dX8_lines_48 : decode cX8_lines 48 = .ok (.getfield 78, 3) := by decide +kernel
theorem dX8_lines_51 : decode cX8_lines 51 = .ok (.aload_n 0, 1) := by decide +kernel
theorem dX8_lines_52 : decode cX8_lines 52 = .ok (.getfield 169, 3) := by decide +kernel
theorem dX8_lines_55 : decode cX8_lines 55 = .ok (.iload_n 3, 1) := by decide +kernel
theorem dX8_lines_56 : decode cX8_lines 56 = .ok (.iastore, 1) := by decide +kernel
theorem dX8_lines_57 : decode cX8_lines 57 = .ok (.aload_n 0, 1) := by decide +kernel
theorem dX8_lines_58 : decode cX8_lines 58 = .ok (.dup, 1) := by decide +kernel
theorem dX8_lines_59 : decode cX8_lines 59 = .ok (.getfield 169, 3) := by decide +kernel
theorem dX8_lines_62 : decode cX8_lines 62 = .ok (.iconst 1, 1) := by decide +kernel
theorem dX8_lines_63 : decode cX8_lines 63 = .ok (.iadd, 1) := by decide +kernel
theorem dX8_lines_64 : decode cX8_lines 64 = .ok (.putfield 169, 3) := by decide +kernel
theorem dX8_lines_67 : decode cX8_lines 67 = .ok (.iconst 0, 1) := by decide +kernel
theorem dX8_lines_68 : decode cX8_lines 68 = .ok (.istore_n 2, 1) := by decide +kernel
theorem dX8_lines_69 : decode cX8_lines 69 = .ok (.iload_n 2, 1) := by decide +kernel
theorem dX8_lines_70 : decode cX8_lines 70 = .ok (.iload 4, 2) := by decide +kernel
theorem dX8_lines_72 : decode cX8_lines 72 = .ok (.iadd, 1) := by decide +kernel
theorem dX8_lines_73 : decode cX8_lines 73 = .ok (.istore_n 2, 1) := by decide +kernel
theorem dX8_lines_74 : decode cX8_lines 74 = .ok (.iinc 3 1, 3) := by decide +kernel
theorem dX8_lines_77 : decode cX8_lines 77 = .ok (.goto (-68), 3) := by decide +kernel
theorem dX8_lines_80 : decode cX8_lines 80 = .ok (.aload_n 0, 1) := by decide +kernel
theorem dX8_lines_81 : decode cX8_lines 81 = .ok (.getfield 78, 3) := by decide +kernel
theorem dX8_lines_84 : decode cX8_lines 84 = .ok (.aload_n 0, 1) := by decide +kernel
theorem dX8_lines_85 : decode cX8_lines 85 = .ok (.getfield 169, 3) := by decide +kernel
theorem dX8_lines_88 : decode cX8_lines 88 = .ok (.aload_n 0, 1) := by decide +kernel
theorem dX8_lines_89 : decode cX8_lines 89 = .ok (.getfield 45, 3) := by decide +kernel
theorem dX8_lines_92 : decode cX8_lines 92 = .ok (.iload_n 1, 1) := by decide +kernel
theorem dX8_lines_93 : decode cX8_lines 93 = .ok (.iaload, 1) := by decide +kernel
theorem dX8_lines_94 : decode cX8_lines 94 = .ok (.iastore, 1) := by decide +kernel
theorem dX8_lines_95 : decode cX8_lines 95 = .ok (.return_, 1) := by decide +kernel
set_option maxRecDepth 20000 in
theorem ggX8_layPages_X8_lines : GoodIn wsX8_layPages wsX8_lines := goodIn_r _ [13, 2, 14, 15, 16, 4, 23, 24, 25, 26, 27, 28, 29, 30, 31, 32, 33, 34, 35, 36, 37, 38, 39, 40, 41, 42, 43, 44, 45, 46, 47, 48, 49, 50, 51, 52, 53, 54, 55, 56, 57, 58] (by decide +kernel) (by decide +kernel)
set_option maxRecDepth 20000 in
theorem gX8_layPages_X8_lines : GoodIn wsX8_layPages (wsV RX8 172 RX8 yX8_lines wsX8_lines) := goodIn_app (goodIn_of _ (by decide +kernel)) ggX8_layPages_X8_lines
set_option maxRecDepth 20000 in
theorem ggX8_layPages_X8_isLongRest : GoodIn wsX8_layPages wsX8_isLongRest := goodIn_r _ [20, 21, 22, 23, 24, 25, 26, 27, 28, 29, 30, 31, 32, 33, 34, 35, 36, 37, 38, 39, 40, 41, 42, 43, 44, 45, 46, 47, 48, 49, 50, 51, 52, 53, 54, 55, 56, 57, 58] (by decide +kernel) (by decide +kernel)
set_option maxRecDepth 20000 in
theorem gX8_layPages_X8_isLongRest : GoodIn wsX8_layPages (wsV RX8 178 RX8 yX8_isLongRest wsX8_isLongRest) := goodIn_app (goodIn_of _ (by decide +kernel)) ggX8_layPages_X8_isLongRest
theorem dX8_layPages_0 : decode cX8_layPages 0 = .ok (.aload_n 0, 1) := by decide +kernel
theorem dX8_layPages_1 : decode cX8_layPages 1 = .ok (.iload_n 1, 1) := by decide +kernel
theorem dX8_layPages_2 : decode cX8_layPages 2 = .ok (.invokevirtual 172, 3) := by decide +kernel
theorem dX8_layPages_5 : decode cX8_layPages 5 = .ok (.aload_n 0, 1) := by decide +kernel
theorem dX8_layPages_6 : decode cX8_layPages 6 = .ok (.iconst 0, 1) := by decide +kernel
theorem dX8_layPages_7 : decode cX8_layPages 7 = .ok (.putfield 175, 3) := by decide +kernel
theorem dX8_layPages_10 : decode cX8_layPages 10 = .ok (.iconst 0, 1) := by decide +kernel
theorem dX8_layPages_11 : decode cX8_layPages 11 = .ok (.istore_n 2, 1) := by decide +kernel
theorem dX8_layPages_12 : decode cX8_layPages 12 = .ok (.iload_n 2, 1) := by decide +kernel
theorem dX8_layPages_13 : decode cX8_layPages 13 = .ok (.aload_n 0, 1) := by decide +kernel
theorem dX8_layPages_14 : decode cX8_layPages 14 = .ok (.getfield 169, 3) := by decide +kernel
theorem dX8_layPages_17 : decode cX8_layPages 17 = .ok (.if_icmp .ge 197, 3) := by decide +kernel
theorem dX8_layPages_20 : decode cX8_layPages 20 = .ok (.aload_n 0, 1) := by decide +kernel
theorem dX8_layPages_21 : decode cX8_layPages 21 = .ok (.getfield 169, 3) := by decide +kernel
theorem dX8_layPages_24 : decode cX8_layPages 24 = .ok (.iload_n 2, 1) := by decide +kernel
theorem dX8_layPages_25 : decode cX8_layPages 25 = .ok (.isub, 1) := by decide +kernel
theorem dX8_layPages_26 : decode cX8_layPages 26 = .ok (.istore_n 3, 1) := by decide +kernel
theorem dX8_layPages_27 : decode cX8_layPages 27 = .ok (.iload_n 3, 1) := by decide +kernel
theorem dX8_layPages_28 : decode cX8_layPages 28 = .ok (.aload_n 0, 1) := by decide +kernel
theorem dX8_layPages_29 : decode cX8_layPages 29 = .ok (.getfield 75, 3) := by decide +kernel
theorem dX8_layPages_32 : decode cX8_layPages 32 = .ok (.if_icmp .gt 7, 3) := by decide +kernel
theorem dX8_layPages_35 : decode cX8_layPages 35 = .ok (.iconst 1, 1) := by decide +kernel
theorem dX8_layPages_36 : decode cX8_layPages 36 = .ok (.goto 4, 3) := by decide +kernel
theorem dX8_layPages_39 : decode cX8_layPages 39 = .ok (.iconst 0, 1) := by decide +kernel
theorem dX8_layPages_40 : decode cX8_layPages 40 = .ok (.istore 4, 2) := by decide +kernel
theorem dX8_layPages_42 : decode cX8_layPages 42 = .ok (.aload_n 0, 1) := by decide +kernel
theorem dX8_layPages_43 : decode cX8_layPages 43 = .ok (.getfield 75, 3) := by decide +kernel
theorem dX8_layPages_46 : decode cX8_layPages 46 = .ok (.istore 5, 2) := by decide +kernel
theorem dX8_layPages_48 : decode cX8_layPages 48 = .ok (.iload 4, 2) := by decide +kernel
theorem dX8_layPages_50 : decode cX8_layPages 50 = .ok (.ifCond .ne 73, 3) := by decide +kernel
theorem dX8_layPages_53 : decode cX8_layPages 53 = .ok (.iload 5, 2) := by decide +kernel
theorem dX8_layPages_55 : decode cX8_layPages 55 = .ok (.iconst 1, 1) := by decide +kernel
theorem dX8_layPages_56 : decode cX8_layPages 56 = .ok (.if_icmp .lt 67, 3) := by decide +kernel
theorem dX8_layPages_59 : decode cX8_layPages 59 = .ok (.iload 5, 2) := by decide +kernel
theorem dX8_layPages_61 : decode cX8_layPages 61 = .ok (.aload_n 0, 1) := by decide +kernel
theorem dX8_layPages_62 : decode cX8_layPages 62 = .ok (.getfield 75, 3) := by decide +kernel
theorem dX8_layPages_65 : decode cX8_layPages 65 = .ok (.iconst 2, 1) := by decide +kernel
theorem dX8_layPages_66 : decode cX8_layPages 66 = .ok (.isub, 1) := by decide +kernel
theorem dX8_layPages_67 : decode cX8_layPages 67 = .ok (.if_icmp .lt 56, 3) := by decide +kernel
theorem dX8_layPages_70 : decode cX8_layPages 70 = .ok (.aload_n 0, 1) := by decide +kernel
theorem dX8_layPages_71 : decode cX8_layPages 71 = .ok (.getfield 78, 3) := by decide +kernel
theorem dX8_layPages_74 : decode cX8_layPages 74 = .ok (.iload_n 2, 1) := by decide +kernel
theorem dX8_layPages_75 : decode cX8_layPages 75 = .ok (.iload 5, 2) := by decide +kernel
theorem dX8_layPages_77 : decode cX8_layPages 77 = .ok (.iadd, 1) := by decide +kernel
theorem dX8_layPages_78 : decode cX8_layPages 78 = .ok (.iaload, 1) := by decide +kernel
theorem dX8_layPages_79 : decode cX8_layPages 79 = .ok (.istore 6, 2) := by decide +kernel
theorem dX8_layPages_81 : decode cX8_layPages 81 = .ok (.aload_n 0, 1) := by decide +kernel
theorem dX8_layPages_82 : decode cX8_layPages 82 = .ok (.bipush 40, 2) := by decide +kernel
theorem dX8_layPages_84 : decode cX8_layPages 84 = .ok (.iload_n 1, 1) := by decide +kernel
theorem dX8_layPages_85 : decode cX8_layPages 85 = .ok (.imul, 1) := by decide +kernel
theorem dX8_layPages_86 : decode cX8_layPages 86 = .ok (.iload 6, 2) := by decide +kernel
theorem dX8_layPages_88 : decode cX8_layPages 88 = .ok (.iadd, 1) := by decide +kernel
theorem dX8_layPages_89 : decode cX8_layPages 89 = .ok (.iconst 1, 1) := by decide +kernel
theorem dX8_layPages_90 : decode cX8_layPages 90 = .ok (.isub, 1) := by decide +kernel
theorem dX8_layPages_91 : decode cX8_layPages 91 = .ok (.invokevirtual 178, 3) := by decide +kernel
theorem dX8_layPages_94 : decode cX8_layPages 94 = .ok (.ifCond .ne 17, 3) := by decide +kernel
theorem dX8_layPages_97 : decode cX8_layPages 97 = .ok (.aload_n 0, 1) := by decide +kernel
theorem dX8_layPages_98 : decode cX8_layPages 98 = .ok (.bipush 40, 2) := by decide +kernel
theorem dX8_layPages_100 : decode cX8_layPages 100 = .ok (.iload_n 1, 1) := by decide +kernel
theorem dX8_layPages_101 : decode cX8_layPages 101 = .ok (.imul, 1) := by decide +kernel
theorem dX8_layPages_102 : decode cX8_layPages 102 = .ok (.iload 6, 2) := by decide +kernel
theorem dX8_layPages_104 : decode cX8_layPages 104 = .ok (.iadd, 1) := by decide +kernel
theorem dX8_layPages_105 : decode cX8_layPages 105 = .ok (.invokevirtual 178, 3) := by decide +kernel
theorem dX8_layPages_108 : decode cX8_layPages 108 = .ok (.ifCond .eq 9, 3) := by decide +kernel
theorem dX8_layPages_111 : decode cX8_layPages 111 = .ok (.iload 5, 2) := by decide +kernel
theorem dX8_layPages_113 : decode cX8_layPages 113 = .ok (.istore_n 3, 1) := by decide +kernel
theorem dX8_layPages_114 : decode cX8_layPages 114 = .ok (.iconst 1, 1) := by decide +kernel
theorem dX8_layPages_115 : decode cX8_layPages 115 = .ok (.istore 4, 2) := by decide +kernel
theorem dX8_layPages_117 : decode cX8_layPages 117 = .ok (.iinc 5 (-1), 3) := by decide +kernel
theorem dX8_layPages_120 : decode cX8_layPages 120 = .ok (.goto (-72), 3) := by decide +kernel
theorem dX8_layPages_123 : decode cX8_layPages 123 = .ok (.iload 4, 2) := by decide +kernel
theorem dX8_layPages_125 : decode cX8_layPages 125 = .ok (.ifCond .eq 7, 3) := by decide +kernel
theorem dX8_layPages_128 : decode cX8_layPages 128 = .ok (.iload_n 3, 1) := by decide +kernel
theorem dX8_layPages_129 : decode cX8_layPages 129 = .ok (.goto 7, 3) := by decide +kernel
theorem dX8_layPages_132 : decode cX8_layPages 132 = .ok (.aload_n 0, 1) := by decide +kernel
theorem dX8_layPages_133 : decode cX8_layPages 133 = .ok (.getfield 75, 3) := by decide +kernel
theorem dX8_layPages_136 : decode cX8_layPages 136 = .ok (.istore_n 3, 1) := by decide +kernel
theorem dX8_layPages_137 : decode cX8_layPages 137 = .ok (.aload_n 0, 1) := by decide +kernel
theorem dX8_layPages_138 : decode cX8_layPages 138 = .ok (.getfield 81, 3) := by decide +kernel
theorem dX8_layPages_141 : decode cX8_layPages 141 = .ok (.aload_n 0, 1) := by decide +kernel
theorem dX8_layPages_142 : decode cX8_layPages 142 = .ok (.getfield 175, 3) := by decide +kernel
theorem dX8_layPages_145 : decode cX8_layPages 145 = .ok (.aload_n 0, 1) := by decide +kernel
theorem dX8_layPages_146 : decode cX8_layPages 146 = .ok (.getfield 78, 3) := by decide +kernel
theorem dX8_layPages_149 : decode cX8_layPages 149 = .ok (.iload_n 2, 1) := by decide +kernel
theorem dX8_layPages_150 : decode cX8_layPages 150 = .ok (.iaload, 1) := by decide +kernel
theorem dX8_layPages_151 : decode cX8_layPages 151 = .ok (.iastore, 1) := by decide +kernel
theorem dX8_layPages_152 : decode cX8_layPages 152 = .ok (.aload_n 0, 1) := by decide +kernel
theorem dX8_layPages_153 : decode cX8_layPages 153 = .ok (.getfield 84, 3) := by decide +kernel
theorem dX8_layPages_156 : decode cX8_layPages 156 = .ok (.aload_n 0, 1) := by decide +kernel
theorem dX8_layPages_157 : decode cX8_layPages 157 = .ok (.getfield 175, 3) := by decide +kernel
theorem dX8_layPages_160 : decode cX8_layPages 160 = .ok (.aload_n 0, 1) := by decide +kernel
theorem dX8_layPages_161 : decode cX8_layPages 161 = .ok (.getfield 78, 3) := by decide +kernel
theorem dX8_layPages_164 : decode cX8_layPages 164 = .ok (.iload_n 2, 1) := by decide +kernel
theorem dX8_layPages_165 : decode cX8_layPages 165 = .ok (.iload_n 3, 1) := by decide +kernel
theorem dX8_layPages_166 : decode cX8_layPages 166 = .ok (.iadd, 1) := by decide +kernel
theorem dX8_layPages_167 : decode cX8_layPages 167 = .ok (.iaload, 1) := by decide +kernel
theorem dX8_layPages_168 : decode cX8_layPages 168 = .ok (.aload_n 0, 1) := by decide +kernel
theorem dX8_layPages_169 : decode cX8_layPages 169 = .ok (.getfield 78, 3) := by decide +kernel
theorem dX8_layPages_172 : decode cX8_layPages 172 = .ok (.iload_n 2, 1) := by decide +kernel
theorem dX8_layPages_173 : decode cX8_layPages 173 = .ok (.iaload, 1) := by decide +kernel
theorem dX8_layPages_174 : decode cX8_layPages 174 = .ok (.isub, 1) := by decide +kernel
theorem dX8_layPages_175 : decode cX8_layPages 175 = .ok (.iastore, 1) := by decide +kernel
theorem dX8_layPages_176 : decode cX8_layPages 176 = .ok (.aload_n 0, 1) := by decide +kernel
theorem dX8_layPages_177 : decode cX8_layPages 177 = .ok (.getfield 87, 3) := by decide +kernel
theorem dX8_layPages_180 : decode cX8_layPages 180 = .ok (.aload_n 0, 1) := by decide +kernel
theorem dX8_layPages_181 : decode cX8_layPages 181 = .ok (.getfield 175, 3) := by decide +kernel
theorem dX8_layPages_184 : decode cX8_layPages 184 = .ok (.iload_n 3, 1) := by decide +kernel
theorem dX8_layPages_185 : decode cX8_layPages 185 = .ok (.iastore, 1) := by decide +kernel
theorem dX8_layPages_186 : decode cX8_layPages 186 = .ok (.aload_n 0, 1) := by decide +kernel
theorem dX8_layPages_187 : decode cX8_layPages 187 = .ok (.getfield 90, 3) := by decide +kernel
theorem dX8_layPages_190 : decode cX8_layPages 190 = .ok (.aload_n 0, 1) := by decide +kernel
theorem dX8_layPages_191 : decode cX8_layPages 191 = .ok (.getfield 175, 3) := by decide +kernel
theorem dX8_layPages_194 : decode cX8_layPages 194 = .ok (.iload 4, 2) := by decide +kernel
theorem dX8_layPages_196 : decode cX8_layPages 196 = .ok (.bastore, 1) := by decide +kernel
theorem dX8_layPages_197 : decode cX8_layPages 197 = .ok (.aload_n 0, 1) := by decide +kernel
theorem dX8_layPages_198 : decode cX8_layPages 198 = .ok (.dup, 1) := by decide +kernel
theorem dX8_layPages_199 : decode cX8_layPages 199 = .ok (.getfield 175, 3) := by decide +kernel
theorem dX8_layPages_202 : decode cX8_layPages 202 = .ok (.iconst 1, 1) := by decide +kernel
theorem dX8_layPages_203 : decode cX8_layPages 203 = .ok (.iadd, 1) := by decide +kernel
theorem dX8_layPages_204 : decode cX8_layPages 204 = .ok (.putfield 175, 3) := by decide +kernel
theorem dX8_layPages_207 : decode cX8_layPages 207 = .ok (.iload_n 2, 1) := by decide +kernel
theorem dX8_layPages_208 : decode cX8_layPages 208 = .ok (.iload_n 3, 1) := by decide +kernel
theorem dX8_layPages_209 : decode cX8_layPages 209 = .ok (.iadd, 1) := by decide +kernel
theorem dX8_layPages_210 : decode cX8_layPages 210 = .ok (.istore_n 2, 1) := by decide +kernel
theorem dX8_layPages_211 : decode cX8_layPages 211 = .ok (.goto (-199), 3) := by decide +kernel
theorem dX8_layPages_214 : decode cX8_layPages 214 = .ok (.return_, 1) := by decide +kernel
theorem dX8_odd_0 : decode cX8_odd 0 = .ok (.iload_n 0, 1) := by decide +kernel
theorem dX8_odd_1 : decode cX8_odd 1 = .ok (.iconst 2, 1) := by decide +kernel
theorem dX8_odd_2 : decode cX8_odd 2 = .ok (.irem, 1) := by decide +kernel
theorem dX8_odd_3 : decode cX8_odd 3 = .ok (.ifCond .ne 9, 3) := by decide +kernel
theorem dX8_odd_6 : decode cX8_odd 6 = .ok (.iload_n 0, 1) := by decide +kernel
theorem dX8_odd_7 : decode cX8_odd 7 = .ok (.iconst 1, 1) := by decide +kernel
theorem dX8_odd_8 : decode cX8_odd 8 = .ok (.iadd, 1) := by decide +kernel
theorem dX8_odd_9 : decode cX8_odd 9 = .ok (.goto 4, 3) := by decide +kernel
theorem dX8_odd_12 : decode cX8_odd 12 = .ok (.iload_n 0, 1) := by decide +kernel
theorem dX8_odd_13 : decode cX8_odd 13 = .ok (.ireturn, 1) := by decide +kernel
set_option maxRecDepth 20000 in
theorem ggX8_renew_X8_isPart : GoodIn wsX8_renew wsX8_isPart := goodIn_r _ [15, 16, 17, 18, 19, 14, 20, 21, 22, 23, 24, 112, 113, 114, 115, 116, 117, 118, 119, 120, 121, 122, 123, 124, 125, 126, 127, 128, 129, 130, 131, 132, 133, 134, 135, 136, 137, 138, 139, 140, 141, 142, 143, 144, 145, 146, 147] (by decide +kernel) (by decide +kernel)
set_option maxRecDepth 20000 in
theorem gX8_renew_X8_isPart : GoodIn wsX8_renew (wsV RX8 163 RX8 yX8_isPart wsX8_isPart) := goodIn_app (goodIn_of _ (by decide +kernel)) ggX8_renew_X8_isPart
set_option maxRecDepth 20000 in
theorem ggX8_renew_X8_layPages : GoodIn wsX8_renew wsX8_layPages := goodIn_r _ [28, 1, 29, 30, 31, 4, 6, 8, 10, 32, 33, 34, 14, 35, 36, 37, 38, 39, 40, 41, 42, 43, 44, 112, 113, 114, 115, 116, 117, 118, 119, 120, 121, 122, 123, 124, 125, 126, 127, 128, 129, 130, 131, 132, 133, 134, 135, 136, 137, 138, 139, 140, 141, 142, 143, 144, 145, 146, 147] (by decide +kernel) (by decide +kernel)
set_option maxRecDepth 20000 in
theorem gX8_renew_X8_layPages : GoodIn wsX8_renew (wsV RX8 181 RX8 yX8_layPages wsX8_layPages) := goodIn_app (goodIn_of _ (by decide +kernel)) ggX8_renew_X8_layPages
set_option maxRecDepth 20000 in
theorem ggX8_renew_X8_make : GoodIn wsX8_renew wsX8_make := goodIn_r _ [48, 36, 49, 50, 51, 52, 14, 53, 54, 55, 56, 57, 58, 59, 60, 61, 62, 43, 63, 44, 64, 65, 37, 66, 67, 68, 69, 70, 71, 72, 73, 74, 75, 76, 77, 78, 79, 80, 81, 82, 83, 84, 85, 86, 87, 88, 89, 90, 91, 92, 93, 94, 95, 96, 97, 98, 99, 100, 101, 102, 21, 103, 112, 113, 114, 115, 116, 117, 118, 119, 120, 121, 122, 123, 124, 125, 126, 127, 128, 129, 130, 131, 132, 133, 134, 135, 136, 137, 138, 139, 140, 141, 142, 143, 144, 145, 146, 147] (by decide +kernel) (by decide +kernel)
set_option maxRecDepth 20000 in
theorem gX8_renew_X8_make : GoodIn wsX8_renew (wsV RX8 156 RX8 yX8_make wsX8_make) := goodIn_app (goodIn_of _ (by decide +kernel)) ggX8_renew_X8_make
set_option maxRecDepth 20000 in
theorem ggX8_renew_X8_isLike : GoodIn wsX8_renew wsX8_isLike := goodIn_r _ [107, 43, 63, 44, 37, 65, 64, 66, 68, 112, 113, 114, 115, 116, 117, 118, 119, 120, 121, 122, 123, 124, 125, 126, 127, 128, 129, 130, 131, 132, 133, 134, 135, 136, 137, 138, 139, 140, 141, 142, 143, 144, 145, 146, 147] (by decide +kernel) (by decide +kernel)
set_option maxRecDepth 20000 in
theorem gX8_renew_X8_isLike : GoodIn wsX8_renew (wsV RX8 166 RX8 yX8_isLike wsX8_isLike) := goodIn_app (goodIn_of _ (by decide +kernel)) ggX8_renew_X8_isLike
set_option maxRecDepth 20000 in
theorem ggX8_renew_X8_keep : GoodIn wsX8_renew wsX8_keep := goodIn_r _ [111, 16, 36, 43, 63, 44, 37, 65, 64, 66, 68, 112, 113, 114, 115, 116, 117, 118, 119, 120, 121, 122, 123, 124, 125, 126, 127, 128, 129, 130, 131, 132, 133, 134, 135, 136, 137, 138, 139, 140, 141, 142, 143, 144, 145, 146, 147] (by decide +kernel) (by decide +kernel)
set_option maxRecDepth 20000 in
theorem gX8_renew_X8_keep : GoodIn wsX8_renew (wsV RX8 160 RX8 yX8_keep wsX8_keep) := goodIn_app (goodIn_of _ (by decide +kernel)) ggX8_renew_X8_keep
theorem dX8_renew_0 : decode cX8_renew 0 = .ok (.aload_n 0, 1) := by decide +kernel
theorem dX8_renew_1 : decode cX8_renew 1 = .ok (.iload_n 1, 1) := by decide +kernel
theorem dX8_renew_2 : decode cX8_renew 2 = .ok (.invokevirtual 163, 3) := by decide +kernel
theorem dX8_renew_5 : decode cX8_renew 5 = .ok (.ifCond .ne 6, 3) := by decide +kernel
theorem dX8_renew_8 : decode cX8_renew 8 = .ok (.bipush (-101), 2) := by decide +kernel
theorem dX8_renew_10 : decode cX8_renew 10 = .ok (.ireturn, 1) := by decide +kernel
theorem dX8_renew_11 : decode cX8_renew 11 = .ok (.aload_n 0, 1) := by decide +kernel
theorem dX8_renew_12 : decode cX8_renew 12 = .ok (.iload_n 1, 1) := by decide +kernel
theorem dX8_renew_13 : decode cX8_renew 13 = .ok (.invokevirtual 181, 3) := by decide +kernel
theorem dX8_renew_16 : decode cX8_renew 16 = .ok (.aload_n 0, 1) := by decide +kernel
theorem dX8_renew_17 : decode cX8_renew 17 = .ok (.aload_n 0, 1) := by decide +kernel
theorem dX8_renew_18 : decode cX8_renew 18 = .ok (.getfield 175, 3) := by decide +kernel
theorem dX8_renew_21 : decode cX8_renew 21 = .ok (.putfield 184, 3) := by decide +kernel
theorem dX8_renew_24 : decode cX8_renew 24 = .ok (.iconst 0, 1) := by decide +kernel
theorem dX8_renew_25 : decode cX8_renew 25 = .ok (.istore_n 2, 1) := by decide +kernel
theorem dX8_renew_26 : decode cX8_renew 26 = .ok (.iload_n 2, 1) := by decide +kernel
theorem dX8_renew_27 : decode cX8_renew 27 = .ok (.aload_n 0, 1) := by decide +kernel
theorem dX8_renew_28 : decode cX8_renew 28 = .ok (.getfield 175, 3) := by decide +kernel
theorem dX8_renew_31 : decode cX8_renew 31 = .ok (.if_icmp .ge 57, 3) := by decide +kernel
theorem dX8_renew_34 : decode cX8_renew 34 = .ok (.aload_n 0, 1) := by decide +kernel
theorem dX8_renew_35 : decode cX8_renew 35 = .ok (.getfield 93, 3) := by decide +kernel
theorem dX8_renew_38 : decode cX8_renew 38 = .ok (.iload_n 2, 1) := by decide +kernel
theorem dX8_renew_39 : decode cX8_renew 39 = .ok (.aload_n 0, 1) := by decide +kernel
theorem dX8_renew_40 : decode cX8_renew 40 = .ok (.getfield 81, 3) := by decide +kernel
theorem dX8_renew_43 : decode cX8_renew 43 = .ok (.iload_n 2, 1) := by decide +kernel
theorem dX8_renew_44 : decode cX8_renew 44 = .ok (.iaload, 1) := by decide +kernel
theorem dX8_renew_45 : decode cX8_renew 45 = .ok (.iastore, 1) := by decide +kernel
theorem dX8_renew_46 : decode cX8_renew 46 = .ok (.aload_n 0, 1) := by decide +kernel
theorem dX8_renew_47 : decode cX8_renew 47 = .ok (.getfield 96, 3) := by decide +kernel
theorem dX8_renew_50 : decode cX8_renew 50 = .ok (.iload_n 2, 1) := by decide +kernel
theorem dX8_renew_51 : decode cX8_renew 51 = .ok (.aload_n 0, 1) := by decide +kernel
theorem dX8_renew_52 : decode cX8_renew 52 = .ok (.getfield 84, 3) := by decide +kernel
theorem dX8_renew_55 : decode cX8_renew 55 = .ok (.iload_n 2, 1) := by decide +kernel
theorem dX8_renew_56 : decode cX8_renew 56 = .ok (.iaload, 1) := by decide +kernel
theorem dX8_renew_57 : decode cX8_renew 57 = .ok (.iastore, 1) := by decide +kernel
theorem dX8_renew_58 : decode cX8_renew 58 = .ok (.aload_n 0, 1) := by decide +kernel
theorem dX8_renew_59 : decode cX8_renew 59 = .ok (.getfield 99, 3) := by decide +kernel
theorem dX8_renew_62 : decode cX8_renew 62 = .ok (.iload_n 2, 1) := by decide +kernel
theorem dX8_renew_63 : decode cX8_renew 63 = .ok (.aload_n 0, 1) := by decide +kernel
theorem dX8_renew_64 : decode cX8_renew 64 = .ok (.getfield 87, 3) := by decide +kernel
theorem dX8_renew_67 : decode cX8_renew 67 = .ok (.iload_n 2, 1) := by decide +kernel
theorem dX8_renew_68 : decode cX8_renew 68 = .ok (.iaload, 1) := by decide +kernel
theorem dX8_renew_69 : decode cX8_renew 69 = .ok (.iastore, 1) := by decide +kernel
theorem dX8_renew_70 : decode cX8_renew 70 = .ok (.aload_n 0, 1) := by decide +kernel
theorem dX8_renew_71 : decode cX8_renew 71 = .ok (.getfield 102, 3) := by decide +kernel
theorem dX8_renew_74 : decode cX8_renew 74 = .ok (.iload_n 2, 1) := by decide +kernel
theorem dX8_renew_75 : decode cX8_renew 75 = .ok (.aload_n 0, 1) := by decide +kernel
theorem dX8_renew_76 : decode cX8_renew 76 = .ok (.getfield 90, 3) := by decide +kernel
theorem dX8_renew_79 : decode cX8_renew 79 = .ok (.iload_n 2, 1) := by decide +kernel
theorem dX8_renew_80 : decode cX8_renew 80 = .ok (.baload, 1) := by decide +kernel
theorem dX8_renew_81 : decode cX8_renew 81 = .ok (.bastore, 1) := by decide +kernel
theorem dX8_renew_82 : decode cX8_renew 82 = .ok (.iinc 2 1, 3) := by decide +kernel
theorem dX8_renew_85 : decode cX8_renew 85 = .ok (.goto (-59), 3) := by decide +kernel
theorem dX8_renew_88 : decode cX8_renew 88 = .ok (.aload_n 0, 1) := by decide +kernel
theorem dX8_renew_89 : decode cX8_renew 89 = .ok (.iload_n 1, 1) := by decide +kernel
theorem dX8_renew_90 : decode cX8_renew 90 = .ok (.invokevirtual 156, 3) := by decide +kernel
theorem dX8_renew_93 : decode cX8_renew 93 = .ok (.aload_n 0, 1) := by decide +kernel
theorem dX8_renew_94 : decode cX8_renew 94 = .ok (.bipush 6, 2) := by decide +kernel
theorem dX8_renew_96 : decode cX8_renew 96 = .ok (.invokevirtual 181, 3) := by decide +kernel
theorem dX8_renew_99 : decode cX8_renew 99 = .ok (.iconst 0, 1) := by decide +kernel
theorem dX8_renew_100 : decode cX8_renew 100 = .ok (.istore_n 2, 1) := by decide +kernel
theorem dX8_renew_101 : decode cX8_renew 101 = .ok (.iconst 1, 1) := by decide +kernel
theorem dX8_renew_102 : decode cX8_renew 102 = .ok (.istore_n 3, 1) := by decide +kernel
theorem dX8_renew_103 : decode cX8_renew 103 = .ok (.iload_n 3, 1) := by decide +kernel
theorem dX8_renew_104 : decode cX8_renew 104 = .ok (.ifCond .eq 156, 3) := by decide +kernel
theorem dX8_renew_107 : decode cX8_renew 107 = .ok (.iload_n 2, 1) := by decide +kernel
theorem dX8_renew_108 : decode cX8_renew 108 = .ok (.aload_n 0, 1) := by decide +kernel
theorem dX8_renew_109 : decode cX8_renew 109 = .ok (.getfield 184, 3) := by decide +kernel
theorem dX8_renew_112 : decode cX8_renew 112 = .ok (.if_icmp .ge 148, 3) := by decide +kernel
theorem dX8_renew_115 : decode cX8_renew 115 = .ok (.iload_n 2, 1) := by decide +kernel
theorem dX8_renew_116 : decode cX8_renew 116 = .ok (.aload_n 0, 1) := by decide +kernel
theorem dX8_renew_117 : decode cX8_renew 117 = .ok (.getfield 175, 3) := by decide +kernel
theorem dX8_renew_120 : decode cX8_renew 120 = .ok (.if_icmp .ge 140, 3) := by decide +kernel
theorem dX8_renew_123 : decode cX8_renew 123 = .ok (.aload_n 0, 1) := by decide +kernel
theorem dX8_renew_124 : decode cX8_renew 124 = .ok (.getfield 93, 3) := by decide +kernel
theorem dX8_renew_127 : decode cX8_renew 127 = .ok (.iload_n 2, 1) := by decide +kernel
theorem dX8_renew_128 : decode cX8_renew 128 = .ok (.iaload, 1) := by decide +kernel
theorem dX8_renew_129 : decode cX8_renew 129 = .ok (.aload_n 0, 1) := by decide +kernel
theorem dX8_renew_130 : decode cX8_renew 130 = .ok (.getfield 81, 3) := by decide +kernel
theorem dX8_renew_133 : decode cX8_renew 133 = .ok (.iload_n 2, 1) := by decide +kernel
theorem dX8_renew_134 : decode cX8_renew 134 = .ok (.iaload, 1) := by decide +kernel
theorem dX8_renew_135 : decode cX8_renew 135 = .ok (.if_icmp .ne 52, 3) := by decide +kernel
theorem dX8_renew_138 : decode cX8_renew 138 = .ok (.aload_n 0, 1) := by decide +kernel
theorem dX8_renew_139 : decode cX8_renew 139 = .ok (.getfield 96, 3) := by decide +kernel
theorem dX8_renew_142 : decode cX8_renew 142 = .ok (.iload_n 2, 1) := by decide +kernel
theorem dX8_renew_143 : decode cX8_renew 143 = .ok (.iaload, 1) := by decide +kernel
theorem dX8_renew_144 : decode cX8_renew 144 = .ok (.aload_n 0, 1) := by decide +kernel
theorem dX8_renew_145 : decode cX8_renew 145 = .ok (.getfield 84, 3) := by decide +kernel
theorem dX8_renew_148 : decode cX8_renew 148 = .ok (.iload_n 2, 1) := by decide +kernel
theorem dX8_renew_149 : decode cX8_renew 149 = .ok (.iaload, 1) := by decide +kernel
theorem dX8_renew_150 : decode cX8_renew 150 = .ok (.if_icmp .ne 37, 3) := by decide +kernel
theorem dX8_renew_153 : decode cX8_renew 153 = .ok (.aload_n 0, 1) := by decide +kernel
theorem dX8_renew_154 : decode cX8_renew 154 = .ok (.getfield 99, 3) := by decide +kernel
theorem dX8_renew_157 : decode cX8_renew 157 = .ok (.iload_n 2, 1) := by decide +kernel
theorem dX8_renew_158 : decode cX8_renew 158 = .ok (.iaload, 1) := by decide +kernel
theorem dX8_renew_159 : decode cX8_renew 159 = .ok (.aload_n 0, 1) := by decide +kernel
theorem dX8_renew_160 : decode cX8_renew 160 = .ok (.getfield 87, 3) := by decide +kernel
theorem dX8_renew_163 : decode cX8_renew 163 = .ok (.iload_n 2, 1) := by decide +kernel
theorem dX8_renew_164 : decode cX8_renew 164 = .ok (.iaload, 1) := by decide +kernel
theorem dX8_renew_165 : decode cX8_renew 165 = .ok (.if_icmp .ne 22, 3) := by decide +kernel
theorem dX8_renew_168 : decode cX8_renew 168 = .ok (.aload_n 0, 1) := by decide +kernel
theorem dX8_renew_169 : decode cX8_renew 169 = .ok (.getfield 102, 3) := by decide +kernel
theorem dX8_renew_172 : decode cX8_renew 172 = .ok (.iload_n 2, 1) := by decide +kernel
theorem dX8_renew_173 : decode cX8_renew 173 = .ok (.baload, 1) := by decide +kernel
theorem dX8_renew_174 : decode cX8_renew 174 = .ok (.aload_n 0, 1) := by decide +kernel
theorem dX8_renew_175 : decode cX8_renew 175 = .ok (.getfield 90, 3) := by decide +kernel
theorem dX8_renew_178 : decode cX8_renew 178 = .ok (.iload_n 2, 1) := by decide +kernel
theorem dX8_renew_179 : decode cX8_renew 179 = .ok (.baload, 1) := by decide +kernel
theorem dX8_renew_180 : decode cX8_renew 180 = .ok (.if_icmp .ne 7, 3) := by decide +kernel
theorem dX8_renew_183 : decode cX8_renew 183 = .ok (.iconst 1, 1) := by decide +kernel
theorem dX8_renew_184 : decode cX8_renew 184 = .ok (.goto 4, 3) := by decide +kernel
theorem dX8_renew_187 : decode cX8_renew 187 = .ok (.iconst 0, 1) := by decide +kernel
theorem dX8_renew_188 : decode cX8_renew 188 = .ok (.istore_n 3, 1) := by decide +kernel
theorem dX8_renew_189 : decode cX8_renew 189 = .ok (.iconst 0, 1) := by decide +kernel
theorem dX8_renew_190 : decode cX8_renew 190 = .ok (.istore 4, 2) := by decide +kernel
theorem dX8_renew_192 : decode cX8_renew 192 = .ok (.iload_n 3, 1) := by decide +kernel
theorem dX8_renew_193 : decode cX8_renew 193 = .ok (.ifCond .eq 52, 3) := by decide +kernel
theorem dX8_renew_196 : decode cX8_renew 196 = .ok (.iload 4, 2) := by decide +kernel
theorem dX8_renew_198 : decode cX8_renew 198 = .ok (.aload_n 0, 1) := by decide +kernel
theorem dX8_renew_199 : decode cX8_renew 199 = .ok (.getfield 84, 3) := by decide +kernel
theorem dX8_renew_202 : decode cX8_renew 202 = .ok (.iload_n 2, 1) := by decide +kernel
theorem dX8_renew_203 : decode cX8_renew 203 = .ok (.iaload, 1) := by decide +kernel
theorem dX8_renew_204 : decode cX8_renew 204 = .ok (.if_icmp .ge 41, 3) := by decide +kernel
theorem dX8_renew_207 : decode cX8_renew 207 = .ok (.aload_n 0, 1) := by decide +kernel
theorem dX8_renew_208 : decode cX8_renew 208 = .ok (.bipush 40, 2) := by decide +kernel
theorem dX8_renew_210 : decode cX8_renew 210 = .ok (.iload_n 1, 1) := by decide +kernel
theorem dX8_renew_211 : decode cX8_renew 211 = .ok (.imul, 1) := by decide +kernel
theorem dX8_renew_212 : decode cX8_renew 212 = .ok (.aload_n 0, 1) := by decide +kernel
theorem dX8_renew_213 : decode cX8_renew 213 = .ok (.getfield 81, 3) := by decide +kernel
theorem dX8_renew_216 : decode cX8_renew 216 = .ok (.iload_n 2, 1) := by decide +kernel
theorem dX8_renew_217 : decode cX8_renew 217 = .ok (.iaload, 1) := by decide +kernel
theorem dX8_renew_218 : decode cX8_renew 218 = .ok (.iadd, 1) := by decide +kernel
theorem dX8_renew_219 : decode cX8_renew 219 = .ok (.iload 4, 2) := by decide +kernel
theorem dX8_renew_221 : decode cX8_renew 221 = .ok (.iadd, 1) := by decide +kernel
theorem dX8_renew_222 : decode cX8_renew 222 = .ok (.sipush 240, 3) := by decide +kernel
theorem dX8_renew_225 : decode cX8_renew 225 = .ok (.aload_n 0, 1) := by decide +kernel
theorem dX8_renew_226 : decode cX8_renew 226 = .ok (.getfield 81, 3) := by decide +kernel
theorem dX8_renew_229 : decode cX8_renew 229 = .ok (.iload_n 2, 1) := by decide +kernel
theorem dX8_renew_230 : decode cX8_renew 230 = .ok (.iaload, 1) := by decide +kernel
theorem dX8_renew_231 : decode cX8_renew 231 = .ok (.iadd, 1) := by decide +kernel
theorem dX8_renew_232 : decode cX8_renew 232 = .ok (.iload 4, 2) := by decide +kernel
theorem dX8_renew_234 : decode cX8_renew 234 = .ok (.iadd, 1) := by decide +kernel
theorem dX8_renew_235 : decode cX8_renew 235 = .ok (.invokevirtual 166, 3) := by decide +kernel
theorem dX8_renew_238 : decode cX8_renew 238 = .ok (.istore_n 3, 1) := by decide +kernel
theorem dX8_renew_239 : decode cX8_renew 239 = .ok (.iinc 4 1, 3) := by decide +kernel
theorem dX8_renew_242 : decode cX8_renew 242 = .ok (.goto (-50), 3) := by decide +kernel
theorem dX8_renew_245 : decode cX8_renew 245 = .ok (.iload_n 2, 1) := by decide +kernel
theorem dX8_renew_246 : decode cX8_renew 246 = .ok (.iload_n 3, 1) := by decide +kernel
theorem dX8_renew_247 : decode cX8_renew 247 = .ok (.ifCond .eq 7, 3) := by decide +kernel
theorem dX8_renew_250 : decode cX8_renew 250 = .ok (.iconst 1, 1) := by decide +kernel
theorem dX8_renew_251 : decode cX8_renew 251 = .ok (.goto 4, 3) := by decide +kernel
theorem dX8_renew_254 : decode cX8_renew 254 = .ok (.iconst 0, 1) := by decide +kernel
theorem dX8_renew_255 : decode cX8_renew 255 = .ok (.iadd, 1) := by decide +kernel
theorem dX8_renew_256 : decode cX8_renew 256 = .ok (.istore_n 2, 1) := by decide +kernel
theorem dX8_renew_257 : decode cX8_renew 257 = .ok (.goto (-154), 3) := by decide +kernel
theorem dX8_renew_260 : decode cX8_renew 260 = .ok (.aload_n 0, 1) := by decide +kernel
theorem dX8_renew_261 : decode cX8_renew 261 = .ok (.iload_n 1, 1) := by decide +kernel
theorem dX8_renew_262 : decode cX8_renew 262 = .ok (.invokevirtual 160, 3) := by decide +kernel
theorem dX8_renew_265 : decode cX8_renew 265 = .ok (.iload_n 2, 1) := by decide +kernel
theorem dX8_renew_266 : decode cX8_renew 266 = .ok (.ireturn, 1) := by decide +kernel
set_option maxRecDepth 20000 in
theorem ggX8_lay_X8_in : GoodIn wsX8_lay wsX8_in := goodIn_r _ [9] (by decide +kernel) (by decide +kernel)
set_option maxRecDepth 20000 in
theorem gX8_lay_X8_in : GoodIn wsX8_lay (va_wsS RX8 108 yX8_in wsX8_in) := goodIn_app (goodIn_of _ (by decide +kernel)) ggX8_lay_X8_in
set_option maxRecDepth 20000 in
theorem ggX8_lay_X8_layPages : GoodIn wsX8_lay wsX8_layPages := goodIn_r _ [13, 5, 14, 2, 15, 16, 17, 18, 19, 20, 21, 22, 8, 23, 24, 25, 1, 26, 27, 28, 29, 30, 31, 32, 33, 34, 35, 36, 37, 38, 39, 40, 41, 42, 43, 44, 45, 46, 47, 48, 49, 50, 51, 52, 53, 54, 55, 56, 57, 58, 59, 60, 61, 62, 63, 64, 65, 66, 67] (by decide +kernel) (by decide +kernel)
set_option maxRecDepth 20000 in
theorem gX8_lay_X8_layPages : GoodIn wsX8_lay (wsV RX8 181 RX8 yX8_layPages wsX8_layPages) := goodIn_app (goodIn_of _ (by decide +kernel)) ggX8_lay_X8_layPages
theorem dX8_lay_0 : decode cX8_lay 0 = .ok (.iload_n 1, 1) := by decide +kernel
theorem dX8_lay_1 : decode cX8_lay 1 = .ok (.bipush 8, 2) := by decide +kernel
theorem dX8_lay_3 : decode cX8_lay 3 = .ok (.bipush 60, 2) := by decide +kernel
theorem dX8_lay_5 : decode cX8_lay 5 = .ok (.invokestatic 108, 3) := by decide +kernel
theorem dX8_lay_8 : decode cX8_lay 8 = .ok (.ifCond .eq 13, 3) := by decide +kernel
theorem dX8_lay_11 : decode cX8_lay 11 = .ok (.iload_n 2, 1) := by decide +kernel
theorem dX8_lay_12 : decode cX8_lay 12 = .ok (.iconst 1, 1) := by decide +kernel
theorem dX8_lay_13 : decode cX8_lay 13 = .ok (.bipush 12, 2) := by decide +kernel
theorem dX8_lay_15 : decode cX8_lay 15 = .ok (.invokestatic 108, 3) := by decide +kernel
theorem dX8_lay_18 : decode cX8_lay 18 = .ok (.ifCond .ne 6, 3) := by decide +kernel
theorem dX8_lay_21 : decode cX8_lay 21 = .ok (.bipush (-102), 2) := by decide +kernel
theorem dX8_lay_23 : decode cX8_lay 23 = .ok (.ireturn, 1) := by decide +kernel
theorem dX8_lay_24 : decode cX8_lay 24 = .ok (.aload_n 0, 1) := by decide +kernel
theorem dX8_lay_25 : decode cX8_lay 25 = .ok (.iload_n 1, 1) := by decide +kernel
theorem dX8_lay_26 : decode cX8_lay 26 = .ok (.putfield 72, 3) := by decide +kernel
theorem dX8_lay_29 : decode cX8_lay 29 = .ok (.aload_n 0, 1) := by decide +kernel
theorem dX8_lay_30 : decode cX8_lay 30 = .ok (.iload_n 2, 1) := by decide +kernel
theorem dX8_lay_31 : decode cX8_lay 31 = .ok (.putfield 75, 3) := by decide +kernel
theorem dX8_lay_34 : decode cX8_lay 34 = .ok (.iconst 0, 1) := by decide +kernel
theorem dX8_lay_35 : decode cX8_lay 35 = .ok (.istore_n 3, 1) := by decide +kernel
theorem dX8_lay_36 : decode cX8_lay 36 = .ok (.iconst 0, 1) := by decide +kernel
theorem dX8_lay_37 : decode cX8_lay 37 = .ok (.istore 4, 2) := by decide +kernel
theorem dX8_lay_39 : decode cX8_lay 39 = .ok (.iload 4, 2) := by decide +kernel
theorem dX8_lay_41 : decode cX8_lay 41 = .ok (.aload_n 0, 1) := by decide +kernel
theorem dX8_lay_42 : decode cX8_lay 42 = .ok (.getfield 105, 3) := by decide +kernel
theorem dX8_lay_45 : decode cX8_lay 45 = .ok (.if_icmp .ge 32, 3) := by decide +kernel
theorem dX8_lay_48 : decode cX8_lay 48 = .ok (.aload_n 0, 1) := by decide +kernel
theorem dX8_lay_49 : decode cX8_lay 49 = .ok (.getfield 42, 3) := by decide +kernel
theorem dX8_lay_52 : decode cX8_lay 52 = .ok (.iload 4, 2) := by decide +kernel
theorem dX8_lay_54 : decode cX8_lay 54 = .ok (.baload, 1) := by decide +kernel
theorem dX8_lay_55 : decode cX8_lay 55 = .ok (.ifCond .eq 16, 3) := by decide +kernel
theorem dX8_lay_58 : decode cX8_lay 58 = .ok (.aload_n 0, 1) := by decide +kernel
theorem dX8_lay_59 : decode cX8_lay 59 = .ok (.iload 4, 2) := by decide +kernel
theorem dX8_lay_61 : decode cX8_lay 61 = .ok (.invokevirtual 181, 3) := by decide +kernel
theorem dX8_lay_64 : decode cX8_lay 64 = .ok (.iload_n 3, 1) := by decide +kernel
theorem dX8_lay_65 : decode cX8_lay 65 = .ok (.aload_n 0, 1) := by decide +kernel
theorem dX8_lay_66 : decode cX8_lay 66 = .ok (.getfield 175, 3) := by decide +kernel
theorem dX8_lay_69 : decode cX8_lay 69 = .ok (.iadd, 1) := by decide +kernel
theorem dX8_lay_70 : decode cX8_lay 70 = .ok (.istore_n 3, 1) := by decide +kernel
theorem dX8_lay_71 : decode cX8_lay 71 = .ok (.iinc 4 1, 3) := by decide +kernel
theorem dX8_lay_74 : decode cX8_lay 74 = .ok (.goto (-35), 3) := by decide +kernel
theorem dX8_lay_77 : decode cX8_lay 77 = .ok (.iload_n 3, 1) := by decide +kernel
theorem dX8_lay_78 : decode cX8_lay 78 = .ok (.ireturn, 1) := by decide +kernel
set_option maxRecDepth 20000 in
theorem ggX8_pages_X8_isPart : GoodIn wsX8_pages wsX8_isPart := goodIn_r _ [6, 7, 8, 9, 10, 5, 11, 12, 13, 14, 15, 40, 41, 42, 43, 44, 45, 46, 47, 48, 49, 50, 51, 52, 53, 54, 55, 56, 57, 58, 59, 60, 61, 62, 63, 64, 65, 66, 67, 68, 69, 70, 71, 72, 73, 74, 75] (by decide +kernel) (by decide +kernel)
set_option maxRecDepth 20000 in
theorem gX8_pages_X8_isPart : GoodIn wsX8_pages (wsV RX8 163 RX8 yX8_isPart wsX8_isPart) := goodIn_app (goodIn_of _ (by decide +kernel)) ggX8_pages_X8_isPart
set_option maxRecDepth 20000 in
theorem ggX8_pages_X8_layPages : GoodIn wsX8_pages wsX8_layPages := goodIn_r _ [19, 1, 20, 21, 22, 23, 24, 25, 26, 27, 28, 29, 5, 30, 31, 32, 33, 34, 35, 36, 37, 38, 39, 40, 41, 42, 43, 44, 45, 46, 47, 48, 49, 50, 51, 52, 53, 54, 55, 56, 57, 58, 59, 60, 61, 62, 63, 64, 65, 66, 67, 68, 69, 70, 71, 72, 73, 74, 75] (by decide +kernel) (by decide +kernel)
set_option maxRecDepth 20000 in
theorem gX8_pages_X8_layPages : GoodIn wsX8_pages (wsV RX8 181 RX8 yX8_layPages wsX8_layPages) := goodIn_app (goodIn_of _ (by decide +kernel)) ggX8_pages_X8_layPages
theorem dX8_pages_0 : decode cX8_pages 0 = .ok (.aload_n 0, 1) := by decide +kernel
theorem dX8_pages_1 : decode cX8_pages 1 = .ok (.iload_n 1, 1) := by decide +kernel
theorem dX8_pages_2 : decode cX8_pages 2 = .ok (.invokevirtual 163, 3) := by decide +kernel
theorem dX8_pages_5 : decode cX8_pages 5 = .ok (.ifCond .ne 6, 3) := by decide +kernel
theorem dX8_pages_8 : decode cX8_pages 8 = .ok (.bipush (-101), 2) := by decide +kernel
theorem dX8_pages_10 : decode cX8_pages 10 = .ok (.ireturn, 1) := by decide +kernel
theorem dX8_pages_11 : decode cX8_pages 11 = .ok (.aload_n 0, 1) := by decide +kernel
theorem dX8_pages_12 : decode cX8_pages 12 = .ok (.iload_n 1, 1) := by decide +kernel
theorem dX8_pages_13 : decode cX8_pages 13 = .ok (.invokevirtual 181, 3) := by decide +kernel
theorem dX8_pages_16 : decode cX8_pages 16 = .ok (.aload_n 0, 1) := by decide +kernel
theorem dX8_pages_17 : decode cX8_pages 17 = .ok (.getfield 175, 3) := by decide +kernel
theorem dX8_pages_20 : decode cX8_pages 20 = .ok (.ireturn, 1) := by decide +kernel
set_option maxRecDepth 20000 in
theorem ggX8_page_X8_isPart : GoodIn wsX8_page wsX8_isPart := goodIn_r _ [10, 11, 12, 13, 14, 9, 15, 16, 17, 18, 19, 47, 48, 49, 50, 51, 52, 53, 54, 55, 56, 57, 58, 59, 60, 61, 62, 63, 64, 65, 66, 67, 68, 69, 70, 71, 72, 73, 74, 75, 76, 77, 78, 79, 80, 81, 82] (by decide +kernel) (by decide +kernel)
set_option maxRecDepth 20000 in
theorem gX8_page_X8_isPart : GoodIn wsX8_page (wsV RX8 163 RX8 yX8_isPart wsX8_isPart) := goodIn_app (goodIn_of _ (by decide +kernel)) ggX8_page_X8_isPart
set_option maxRecDepth 20000 in
theorem ggX8_page_X8_lastNumber : GoodIn wsX8_page wsX8_lastNumber := goodIn_r _ [23, 11, 1, 24, 25, 26, 9, 27, 28, 29, 30, 2, 3, 4, 5, 31, 32, 33, 34, 35, 36, 37, 38, 39, 40, 41, 42, 43, 44, 45, 46, 47, 48, 49, 50, 51, 52, 53, 54, 55, 56, 57, 58, 59, 60, 61, 62, 63, 64, 65, 66, 67, 68, 69, 70, 71, 72, 73, 74, 75, 76, 77, 78, 79, 80, 81, 82] (by decide +kernel) (by decide +kernel)
set_option maxRecDepth 20000 in
theorem gX8_page_X8_lastNumber : GoodIn wsX8_page (wsV RX8 187 RX8 yX8_lastNumber wsX8_lastNumber) := goodIn_app (goodIn_of _ (by decide +kernel)) ggX8_page_X8_lastNumber
set_option maxRecDepth 20000 in
theorem ggX8_page_X8_odd : GoodIn wsX8_page wsX8_odd := goodIn_r _ [46] (by decide +kernel) (by decide +kernel)
set_option maxRecDepth 20000 in
theorem gX8_page_X8_odd : GoodIn wsX8_page (va_wsS RX8 190 yX8_odd wsX8_odd) := goodIn_app (goodIn_of _ (by decide +kernel)) ggX8_page_X8_odd
set_option maxRecDepth 20000 in
theorem ggX8_page_X8_layPages : GoodIn wsX8_page wsX8_layPages := goodIn_r _ [27, 1, 28, 29, 30, 2, 3, 4, 5, 31, 32, 33, 9, 34, 35, 36, 37, 38, 39, 40, 41, 42, 43, 47, 48, 49, 50, 51, 52, 53, 54, 55, 56, 57, 58, 59, 60, 61, 62, 63, 64, 65, 66, 67, 68, 69, 70, 71, 72, 73, 74, 75, 76, 77, 78, 79, 80, 81, 82] (by decide +kernel) (by decide +kernel)
set_option maxRecDepth 20000 in
theorem gX8_page_X8_layPages : GoodIn wsX8_page (wsV RX8 181 RX8 yX8_layPages wsX8_layPages) := goodIn_app (goodIn_of _ (by decide +kernel)) ggX8_page_X8_layPages
set_option maxRecDepth 20000 in
theorem ggX8_page_X8_in : GoodIn wsX8_page wsX8_in := goodIn_r _ [19] (by decide +kernel) (by decide +kernel)
set_option maxRecDepth 20000 in
theorem gX8_page_X8_in : GoodIn wsX8_page (va_wsS RX8 108 yX8_in wsX8_in) := goodIn_app (goodIn_of _ (by decide +kernel)) ggX8_page_X8_in
theorem dX8_page_0 : decode cX8_page 0 = .ok (.aload_n 0, 1) := by decide +kernel
theorem dX8_page_1 : decode cX8_page 1 = .ok (.iload_n 1, 1) := by decide +kernel
theorem dX8_page_2 : decode cX8_page 2 = .ok (.invokevirtual 163, 3) := by decide +kernel
theorem dX8_page_5 : decode cX8_page 5 = .ok (.ifCond .ne 6, 3) := by decide +kernel
theorem dX8_page_8 : decode cX8_page 8 = .ok (.bipush (-101), 2) := by decide +kernel
theorem dX8_page_10 : decode cX8_page 10 = .ok (.ireturn, 1) := by decide +kernel
theorem dX8_page_11 : decode cX8_page 11 = .ok (.aload_n 0, 1) := by decide +kernel
theorem dX8_page_12 : decode cX8_page 12 = .ok (.iload_n 1, 1) := by decide +kernel
theorem dX8_page_13 : decode cX8_page 13 = .ok (.invokevirtual 187, 3) := by decide +kernel
theorem dX8_page_16 : decode cX8_page 16 = .ok (.iconst 1, 1) := by decide +kernel
theorem dX8_page_17 : decode cX8_page 17 = .ok (.iadd, 1) := by decide +kernel
theorem dX8_page_18 : decode cX8_page 18 = .ok (.invokestatic 190, 3) := by decide +kernel
theorem dX8_page_21 : decode cX8_page 21 = .ok (.istore 4, 2) := by decide +kernel
theorem dX8_page_23 : decode cX8_page 23 = .ok (.aload_n 0, 1) := by decide +kernel
theorem dX8_page_24 : decode cX8_page 24 = .ok (.iload_n 1, 1) := by decide +kernel
theorem dX8_page_25 : decode cX8_page 25 = .ok (.invokevirtual 181, 3) := by decide +kernel
theorem dX8_page_28 : decode cX8_page 28 = .ok (.iload_n 2, 1) := by decide +kernel
theorem dX8_page_29 : decode cX8_page 29 = .ok (.iconst 0, 1) := by decide +kernel
theorem dX8_page_30 : decode cX8_page 30 = .ok (.aload_n 0, 1) := by decide +kernel
theorem dX8_page_31 : decode cX8_page 31 = .ok (.getfield 175, 3) := by decide +kernel
theorem dX8_page_34 : decode cX8_page 34 = .ok (.iconst 1, 1) := by decide +kernel
theorem dX8_page_35 : decode cX8_page 35 = .ok (.isub, 1) := by decide +kernel
theorem dX8_page_36 : decode cX8_page 36 = .ok (.invokestatic 108, 3) := by decide +kernel
theorem dX8_page_39 : decode cX8_page 39 = .ok (.ifCond .ne 6, 3) := by decide +kernel
theorem dX8_page_42 : decode cX8_page 42 = .ok (.bipush (-101), 2) := by decide +kernel
theorem dX8_page_44 : decode cX8_page 44 = .ok (.ireturn, 1) := by decide +kernel
theorem dX8_page_45 : decode cX8_page 45 = .ok (.iload_n 3, 1) := by decide +kernel
theorem dX8_page_46 : decode cX8_page 46 = .ok (.tableswitch 75 0 4 #[34, 41, 48, 55, 70], 34) := by decide +kernel
theorem dX8_page_80 : decode cX8_page 80 = .ok (.aload_n 0, 1) := by decide +kernel
theorem dX8_page_81 : decode cX8_page 81 = .ok (.getfield 81, 3) := by decide +kernel
theorem dX8_page_84 : decode cX8_page 84 = .ok (.iload_n 2, 1) := by decide +kernel
theorem dX8_page_85 : decode cX8_page 85 = .ok (.iaload, 1) := by decide +kernel
theorem dX8_page_86 : decode cX8_page 86 = .ok (.ireturn, 1) := by decide +kernel
theorem dX8_page_87 : decode cX8_page 87 = .ok (.aload_n 0, 1) := by decide +kernel
theorem dX8_page_88 : decode cX8_page 88 = .ok (.getfield 84, 3) := by decide +kernel
theorem dX8_page_91 : decode cX8_page 91 = .ok (.iload_n 2, 1) := by decide +kernel
theorem dX8_page_92 : decode cX8_page 92 = .ok (.iaload, 1) := by decide +kernel
theorem dX8_page_93 : decode cX8_page 93 = .ok (.ireturn, 1) := by decide +kernel
theorem dX8_page_94 : decode cX8_page 94 = .ok (.aload_n 0, 1) := by decide +kernel
theorem dX8_page_95 : decode cX8_page 95 = .ok (.getfield 87, 3) := by decide +kernel
theorem dX8_page_98 : decode cX8_page 98 = .ok (.iload_n 2, 1) := by decide +kernel
theorem dX8_page_99 : decode cX8_page 99 = .ok (.iaload, 1) := by decide +kernel
theorem dX8_page_100 : decode cX8_page 100 = .ok (.ireturn, 1) := by decide +kernel
theorem dX8_page_101 : decode cX8_page 101 = .ok (.aload_n 0, 1) := by decide +kernel
theorem dX8_page_102 : decode cX8_page 102 = .ok (.getfield 90, 3) := by decide +kernel
theorem dX8_page_105 : decode cX8_page 105 = .ok (.iload_n 2, 1) := by decide +kernel
theorem dX8_page_106 : decode cX8_page 106 = .ok (.baload, 1) := by decide +kernel
theorem dX8_page_107 : decode cX8_page 107 = .ok (.ifCond .eq 7, 3) := by decide +kernel
theorem dX8_page_110 : decode cX8_page 110 = .ok (.iconst 1, 1) := by decide +kernel
theorem dX8_page_111 : decode cX8_page 111 = .ok (.goto 4, 3) := by decide +kernel
theorem dX8_page_114 : decode cX8_page 114 = .ok (.iconst 0, 1) := by decide +kernel
theorem dX8_page_115 : decode cX8_page 115 = .ok (.ireturn, 1) := by decide +kernel
theorem dX8_page_116 : decode cX8_page 116 = .ok (.iload 4, 2) := by decide +kernel
theorem dX8_page_118 : decode cX8_page 118 = .ok (.iload_n 2, 1) := by decide +kernel
theorem dX8_page_119 : decode cX8_page 119 = .ok (.iadd, 1) := by decide +kernel
theorem dX8_page_120 : decode cX8_page 120 = .ok (.ireturn, 1) := by decide +kernel
theorem dX8_page_121 : decode cX8_page 121 = .ok (.bipush (-102), 2) := by decide +kernel
theorem dX8_page_123 : decode cX8_page 123 = .ok (.ireturn, 1) := by decide +kernel
set_option maxRecDepth 20000 in
theorem ggX8_lastNumber_X8_layPages : GoodIn wsX8_lastNumber wsX8_layPages := goodIn_r _ [7, 2, 8, 9, 10, 11, 12, 13, 14, 15, 16, 17, 6, 18, 19, 20, 21, 22, 23, 24, 25, 26, 27, 31, 32, 33, 34, 35, 36, 37, 38, 39, 40, 41, 42, 43, 44, 45, 46, 47, 48, 49, 50, 51, 52, 53, 54, 55, 56, 57, 58, 59, 60, 61, 62, 63, 64, 65, 66] (by decide +kernel) (by decide +kernel)
set_option maxRecDepth 20000 in
theorem gX8_lastNumber_X8_layPages : GoodIn wsX8_lastNumber (wsV RX8 181 RX8 yX8_layPages wsX8_layPages) := goodIn_app (goodIn_of _ (by decide +kernel)) ggX8_lastNumber_X8_layPages
set_option maxRecDepth 20000 in
theorem ggX8_lastNumber_X8_odd : GoodIn wsX8_lastNumber wsX8_odd := goodIn_r _ [30] (by decide +kernel) (by decide +kernel)
set_option maxRecDepth 20000 in
theorem gX8_lastNumber_X8_odd : GoodIn wsX8_lastNumber (va_wsS RX8 190 yX8_odd wsX8_odd) := goodIn_app (goodIn_of _ (by decide +kernel)) ggX8_lastNumber_X8_odd
theorem dX8_lastNumber_0 : decode cX8_lastNumber 0 = .ok (.iconst 0, 1) := by decide +kernel
theorem dX8_lastNumber_1 : decode cX8_lastNumber 1 = .ok (.istore_n 2, 1) := by decide +kernel
theorem dX8_lastNumber_2 : decode cX8_lastNumber 2 = .ok (.iconst 0, 1) := by decide +kernel
theorem dX8_lastNumber_3 : decode cX8_lastNumber 3 = .ok (.istore_n 3, 1) := by decide +kernel
theorem dX8_lastNumber_4 : decode cX8_lastNumber 4 = .ok (.iload_n 3, 1) := by decide +kernel
theorem dX8_lastNumber_5 : decode cX8_lastNumber 5 = .ok (.iload_n 1, 1) := by decide +kernel
theorem dX8_lastNumber_6 : decode cX8_lastNumber 6 = .ok (.if_icmp .ge 48, 3) := by decide +kernel
theorem dX8_lastNumber_9 : decode cX8_lastNumber 9 = .ok (.aload_n 0, 1) := by decide +kernel
theorem dX8_lastNumber_10 : decode cX8_lastNumber 10 = .ok (.getfield 42, 3) := by decide +kernel
theorem dX8_lastNumber_13 : decode cX8_lastNumber 13 = .ok (.iload_n 3, 1) := by decide +kernel
theorem dX8_lastNumber_14 : decode cX8_lastNumber 14 = .ok (.baload, 1) := by decide +kernel
theorem dX8_lastNumber_15 : decode cX8_lastNumber 15 = .ok (.ifCond .eq 33, 3) := by decide +kernel
theorem dX8_lastNumber_18 : decode cX8_lastNumber 18 = .ok (.aload_n 0, 1) := by decide +kernel
theorem dX8_lastNumber_19 : decode cX8_lastNumber 19 = .ok (.iload_n 3, 1) := by decide +kernel
theorem dX8_lastNumber_20 : decode cX8_lastNumber 20 = .ok (.invokevirtual 181, 3) := by decide +kernel
theorem dX8_lastNumber_23 : decode cX8_lastNumber 23 = .ok (.aload_n 0, 1) := by decide +kernel
theorem dX8_lastNumber_24 : decode cX8_lastNumber 24 = .ok (.getfield 175, 3) := by decide +kernel
theorem dX8_lastNumber_27 : decode cX8_lastNumber 27 = .ok (.ifCond .le 19, 3) := by decide +kernel
theorem dX8_lastNumber_30 : decode cX8_lastNumber 30 = .ok (.iload_n 2, 1) := by decide +kernel
theorem dX8_lastNumber_31 : decode cX8_lastNumber 31 = .ok (.iconst 1, 1) := by decide +kernel
theorem dX8_lastNumber_32 : decode cX8_lastNumber 32 = .ok (.iadd, 1) := by decide +kernel
theorem dX8_lastNumber_33 : decode cX8_lastNumber 33 = .ok (.invokestatic 190, 3) := by decide +kernel
theorem dX8_lastNumber_36 : decode cX8_lastNumber 36 = .ok (.aload_n 0, 1) := by decide +kernel
theorem dX8_lastNumber_37 : decode cX8_lastNumber 37 = .ok (.getfield 175, 3) := by decide +kernel
theorem dX8_lastNumber_40 : decode cX8_lastNumber 40 = .ok (.iadd, 1) := by decide +kernel
theorem dX8_lastNumber_41 : decode cX8_lastNumber 41 = .ok (.iconst 1, 1) := by decide +kernel
theorem dX8_lastNumber_42 : decode cX8_lastNumber 42 = .ok (.isub, 1) := by decide +kernel
theorem dX8_lastNumber_43 : decode cX8_lastNumber 43 = .ok (.goto 4, 3) := by decide +kernel
theorem dX8_lastNumber_46 : decode cX8_lastNumber 46 = .ok (.iload_n 2, 1) := by decide +kernel
theorem dX8_lastNumber_47 : decode cX8_lastNumber 47 = .ok (.istore_n 2, 1) := by decide +kernel
theorem dX8_lastNumber_48 : decode cX8_lastNumber 48 = .ok (.iinc 3 1, 3) := by decide +kernel
theorem dX8_lastNumber_51 : decode cX8_lastNumber 51 = .ok (.goto (-47), 3) := by decide +kernel
theorem dX8_lastNumber_54 : decode cX8_lastNumber 54 = .ok (.iload_n 2, 1) := by decide +kernel
theorem dX8_lastNumber_55 : decode cX8_lastNumber 55 = .ok (.ireturn, 1) := by decide +kernel
theorem dX8_areIn_0 : decode cX8_areIn 0 = .ok (.iconst 1, 1) := by decide +kernel
theorem dX8_areIn_1 : decode cX8_areIn 1 = .ok (.istore 4, 2) := by decide +kernel
theorem dX8_areIn_3 : decode cX8_areIn 3 = .ok (.iconst 0, 1) := by decide +kernel
theorem dX8_areIn_4 : decode cX8_areIn 4 = .ok (.istore 5, 2) := by decide +kernel
theorem dX8_areIn_6 : decode cX8_areIn 6 = .ok (.iload 5, 2) := by decide +kernel
theorem dX8_areIn_8 : decode cX8_areIn 8 = .ok (.aload_n 0, 1) := by decide +kernel
theorem dX8_areIn_9 : decode cX8_areIn 9 = .ok (.getfield 7, 3) := by decide +kernel
theorem dX8_areIn_12 : decode cX8_areIn 12 = .ok (.iload_n 1, 1) := by decide +kernel
theorem dX8_areIn_13 : decode cX8_areIn 13 = .ok (.iaload, 1) := by decide +kernel
theorem dX8_areIn_14 : decode cX8_areIn 14 = .ok (.if_icmp .ge 185, 3) := by decide +kernel
theorem dX8_areIn_17 : decode cX8_areIn 17 = .ok (.iconst 0, 1) := by decide +kernel
theorem dX8_areIn_18 : decode cX8_areIn 18 = .ok (.istore 6, 2) := by decide +kernel
theorem dX8_areIn_20 : decode cX8_areIn 20 = .ok (.iconst 0, 1) := by decide +kernel
theorem dX8_areIn_21 : decode cX8_areIn 21 = .ok (.istore 7, 2) := by decide +kernel
theorem dX8_areIn_23 : decode cX8_areIn 23 = .ok (.iload 7, 2) := by decide +kernel
theorem dX8_areIn_25 : decode cX8_areIn 25 = .ok (.aload_n 0, 1) := by decide +kernel
theorem dX8_areIn_26 : decode cX8_areIn 26 = .ok (.getfield 7, 3) := by decide +kernel
theorem dX8_areIn_29 : decode cX8_areIn 29 = .ok (.iload_n 2, 1) := by decide +kernel
theorem dX8_areIn_30 : decode cX8_areIn 30 = .ok (.iaload, 1) := by decide +kernel
theorem dX8_areIn_31 : decode cX8_areIn 31 = .ok (.if_icmp .ge 145, 3) := by decide +kernel
theorem dX8_areIn_34 : decode cX8_areIn 34 = .ok (.aload_n 0, 1) := by decide +kernel
theorem dX8_areIn_35 : decode cX8_areIn 35 = .ok (.getfield 13, 3) := by decide +kernel
theorem dX8_areIn_38 : decode cX8_areIn 38 = .ok (.bipush 8, 2) := by decide +kernel
theorem dX8_areIn_40 : decode cX8_areIn 40 = .ok (.iload_n 1, 1) := by decide +kernel
theorem dX8_areIn_41 : decode cX8_areIn 41 = .ok (.imul, 1) := by decide +kernel
theorem dX8_areIn_42 : decode cX8_areIn 42 = .ok (.iload 5, 2) := by decide +kernel
theorem dX8_areIn_44 : decode cX8_areIn 44 = .ok (.iadd, 1) := by decide +kernel
theorem dX8_areIn_45 : decode cX8_areIn 45 = .ok (.iaload, 1) := by decide +kernel
theorem dX8_areIn_46 : decode cX8_areIn 46 = .ok (.aload_n 0, 1) := by decide +kernel
theorem dX8_areIn_47 : decode cX8_areIn 47 = .ok (.getfield 13, 3) := by decide +kernel
theorem dX8_areIn_50 : decode cX8_areIn 50 = .ok (.bipush 8, 2) := by decide +kernel
theorem dX8_areIn_52 : decode cX8_areIn 52 = .ok (.iload_n 2, 1) := by decide +kernel
theorem dX8_areIn_53 : decode cX8_areIn 53 = .ok (.imul, 1) := by decide +kernel
theorem dX8_areIn_54 : decode cX8_areIn 54 = .ok (.iload 7, 2) := by decide +kernel
theorem dX8_areIn_56 : decode cX8_areIn 56 = .ok (.iadd, 1) := by decide +kernel
theorem dX8_areIn_57 : decode cX8_areIn 57 = .ok (.iaload, 1) := by decide +kernel
theorem dX8_areIn_58 : decode cX8_areIn 58 = .ok (.if_icmp .ne 34, 3) := by decide +kernel
theorem dX8_areIn_61 : decode cX8_areIn 61 = .ok (.aload_n 0, 1) := by decide +kernel
theorem dX8_areIn_62 : decode cX8_areIn 62 = .ok (.getfield 16, 3) := by decide +kernel
theorem dX8_areIn_65 : decode cX8_areIn 65 = .ok (.bipush 8, 2) := by decide +kernel
theorem dX8_areIn_67 : decode cX8_areIn 67 = .ok (.iload_n 1, 1) := by decide +kernel
theorem dX8_areIn_68 : decode cX8_areIn 68 = .ok (.imul, 1) := by decide +kernel
theorem dX8_areIn_69 : decode cX8_areIn 69 = .ok (.iload 5, 2) := by decide +kernel
theorem dX8_areIn_71 : decode cX8_areIn 71 = .ok (.iadd, 1) := by decide +kernel
theorem dX8_areIn_72 : decode cX8_areIn 72 = .ok (.iaload, 1) := by decide +kernel
theorem dX8_areIn_73 : decode cX8_areIn 73 = .ok (.aload_n 0, 1) := by decide +kernel
theorem dX8_areIn_74 : decode cX8_areIn 74 = .ok (.getfield 16, 3) := by decide +kernel
theorem dX8_areIn_77 : decode cX8_areIn 77 = .ok (.bipush 8, 2) := by decide +kernel
theorem dX8_areIn_79 : decode cX8_areIn 79 = .ok (.iload_n 2, 1) := by decide +kernel
theorem dX8_areIn_80 : decode cX8_areIn 80 = .ok (.imul, 1) := by decide +kernel
theorem dX8_areIn_81 : decode cX8_areIn 81 = .ok (.iload 7, 2) := by decide +kernel
theorem dX8_areIn_83 : decode cX8_areIn 83 = .ok (.iadd, 1) := by decide +kernel
theorem dX8_areIn_84 : decode cX8_areIn 84 = .ok (.iaload, 1) := by decide +kernel
theorem dX8_areIn_85 : decode cX8_areIn 85 = .ok (.if_icmp .ne 7, 3) := by decide +kernel
theorem dX8_areIn_88 : decode cX8_areIn 88 = .ok (.iconst 1, 1) := by decide +kernel
theorem dX8_areIn_89 : decode cX8_areIn 89 = .ok (.goto 4, 3) := by decide +kernel
theorem dX8_areIn_92 : decode cX8_areIn 92 = .ok (.iconst 0, 1) := by decide +kernel
theorem dX8_areIn_93 : decode cX8_areIn 93 = .ok (.istore 8, 2) := by decide +kernel
theorem dX8_areIn_95 : decode cX8_areIn 95 = .ok (.iload 6, 2) := by decide +kernel
theorem dX8_areIn_97 : decode cX8_areIn 97 = .ok (.ifCond .ne 66, 3) := by decide +kernel
theorem dX8_areIn_100 : decode cX8_areIn 100 = .ok (.iload 8, 2) := by decide +kernel
theorem dX8_areIn_102 : decode cX8_areIn 102 = .ok (.ifCond .eq 65, 3) := by decide +kernel
theorem dX8_areIn_105 : decode cX8_areIn 105 = .ok (.iload_n 3, 1) := by decide +kernel
theorem dX8_areIn_106 : decode cX8_areIn 106 = .ok (.ifCond .eq 57, 3) := by decide +kernel
theorem dX8_areIn_109 : decode cX8_areIn 109 = .ok (.aload_n 0, 1) := by decide +kernel
theorem dX8_areIn_110 : decode cX8_areIn 110 = .ok (.getfield 19, 3) := by decide +kernel
theorem dX8_areIn_113 : decode cX8_areIn 113 = .ok (.bipush 8, 2) := by decide +kernel
theorem dX8_areIn_115 : decode cX8_areIn 115 = .ok (.iload_n 1, 1) := by decide +kernel
theorem dX8_areIn_116 : decode cX8_areIn 116 = .ok (.imul, 1) := by decide +kernel
theorem dX8_areIn_117 : decode cX8_areIn 117 = .ok (.iload 5, 2) := by decide +kernel
theorem dX8_areIn_119 : decode cX8_areIn 119 = .ok (.iadd, 1) := by decide +kernel
theorem dX8_areIn_120 : decode cX8_areIn 120 = .ok (.iaload, 1) := by decide +kernel
theorem dX8_areIn_121 : decode cX8_areIn 121 = .ok (.aload_n 0, 1) := by decide +kernel
theorem dX8_areIn_122 : decode cX8_areIn 122 = .ok (.getfield 19, 3) := by decide +kernel
theorem dX8_areIn_125 : decode cX8_areIn 125 = .ok (.bipush 8, 2) := by decide +kernel
theorem dX8_areIn_127 : decode cX8_areIn 127 = .ok (.iload_n 2, 1) := by decide +kernel
theorem dX8_areIn_128 : decode cX8_areIn 128 = .ok (.imul, 1) := by decide +kernel
theorem dX8_areIn_129 : decode cX8_areIn 129 = .ok (.iload 7, 2) := by decide +kernel
theorem dX8_areIn_131 : decode cX8_areIn 131 = .ok (.iadd, 1) := by decide +kernel
theorem dX8_areIn_132 : decode cX8_areIn 132 = .ok (.iaload, 1) := by decide +kernel
theorem dX8_areIn_133 : decode cX8_areIn 133 = .ok (.if_icmp .ne 34, 3) := by decide +kernel
theorem dX8_areIn_136 : decode cX8_areIn 136 = .ok (.aload_n 0, 1) := by decide +kernel
theorem dX8_areIn_137 : decode cX8_areIn 137 = .ok (.getfield 22, 3) := by decide +kernel
theorem dX8_areIn_140 : decode cX8_areIn 140 = .ok (.bipush 8, 2) := by decide +kernel
theorem dX8_areIn_142 : decode cX8_areIn 142 = .ok (.iload_n 1, 1) := by decide +kernel
theorem dX8_areIn_143 : decode cX8_areIn 143 = .ok (.imul, 1) := by decide +kernel
theorem dX8_areIn_144 : decode cX8_areIn 144 = .ok (.iload 5, 2) := by decide +kernel
theorem dX8_areIn_146 : decode cX8_areIn 146 = .ok (.iadd, 1) := by decide +kernel
theorem dX8_areIn_147 : decode cX8_areIn 147 = .ok (.iaload, 1) := by decide +kernel
theorem dX8_areIn_148 : decode cX8_areIn 148 = .ok (.aload_n 0, 1) := by decide +kernel
theorem dX8_areIn_149 : decode cX8_areIn 149 = .ok (.getfield 22, 3) := by decide +kernel
theorem dX8_areIn_152 : decode cX8_areIn 152 = .ok (.bipush 8, 2) := by decide +kernel
theorem dX8_areIn_154 : decode cX8_areIn 154 = .ok (.iload_n 2, 1) := by decide +kernel
theorem dX8_areIn_155 : decode cX8_areIn 155 = .ok (.imul, 1) := by decide +kernel
theorem dX8_areIn_156 : decode cX8_areIn 156 = .ok (.iload 7, 2) := by decide +kernel
theorem dX8_areIn_158 : decode cX8_areIn 158 = .ok (.iadd, 1) := by decide +kernel
theorem dX8_areIn_159 : decode cX8_areIn 159 = .ok (.iaload, 1) := by decide +kernel
theorem dX8_areIn_160 : decode cX8_areIn 160 = .ok (.if_icmp .ne 7, 3) := by decide +kernel
theorem dX8_areIn_163 : decode cX8_areIn 163 = .ok (.iconst 1, 1) := by decide +kernel
theorem dX8_areIn_164 : decode cX8_areIn 164 = .ok (.goto 4, 3) := by decide +kernel
theorem dX8_areIn_167 : decode cX8_areIn 167 = .ok (.iconst 0, 1) := by decide +kernel
theorem dX8_areIn_168 : decode cX8_areIn 168 = .ok (.istore 6, 2) := by decide +kernel
theorem dX8_areIn_170 : decode cX8_areIn 170 = .ok (.iinc 7 1, 3) := by decide +kernel
theorem dX8_areIn_173 : decode cX8_areIn 173 = .ok (.goto (-150), 3) := by decide +kernel
theorem dX8_areIn_176 : decode cX8_areIn 176 = .ok (.iload 4, 2) := by decide +kernel
theorem dX8_areIn_178 : decode cX8_areIn 178 = .ok (.ifCond .eq 12, 3) := by decide +kernel
theorem dX8_areIn_181 : decode cX8_areIn 181 = .ok (.iload 6, 2) := by decide +kernel
theorem dX8_areIn_183 : decode cX8_areIn 183 = .ok (.ifCond .eq 7, 3) := by decide +kernel
theorem dX8_areIn_186 : decode cX8_areIn 186 = .ok (.iconst 1, 1) := by decide +kernel
theorem dX8_areIn_187 : decode cX8_areIn 187 = .ok (.goto 4, 3) := by decide +kernel
theorem dX8_areIn_190 : decode cX8_areIn 190 = .ok (.iconst 0, 1) := by decide +kernel
theorem dX8_areIn_191 : decode cX8_areIn 191 = .ok (.istore 4, 2) := by decide +kernel
theorem dX8_areIn_193 : decode cX8_areIn 193 = .ok (.iinc 5 1, 3) := by decide +kernel
theorem dX8_areIn_196 : decode cX8_areIn 196 = .ok (.goto (-190), 3) := by decide +kernel
theorem dX8_areIn_199 : decode cX8_areIn 199 = .ok (.iload 4, 2) := by decide +kernel
theorem dX8_areIn_201 : decode cX8_areIn 201 = .ok (.ireturn, 1) := by decide +kernel
set_option maxRecDepth 20000 in
theorem ggX8_condensedAt_X8_areIn : GoodIn wsX8_condensedAt wsX8_areIn := goodIn_r _ [6, 1, 7, 8, 9, 10, 11, 12, 13, 14, 15, 16, 17, 18, 19, 20, 21, 22, 23, 24, 25, 26, 27, 28, 29, 30, 31, 32, 33, 34, 35, 36, 37, 38, 39, 40, 41, 42, 43, 44, 45, 46] (by decide +kernel) (by decide +kernel)
set_option maxRecDepth 20000 in
theorem gX8_condensedAt_X8_areIn : GoodIn wsX8_condensedAt (wsV RX8 193 RX8 yX8_areIn wsX8_areIn) := goodIn_app (goodIn_of _ (by decide +kernel)) ggX8_condensedAt_X8_areIn
theorem dX8_condensedAt_0 : decode cX8_condensedAt 0 = .ok (.bipush 40, 2) := by decide +kernel
theorem dX8_condensedAt_2 : decode cX8_condensedAt 2 = .ok (.iload_n 1, 1) := by decide +kernel
theorem dX8_condensedAt_3 : decode cX8_condensedAt 3 = .ok (.imul, 1) := by decide +kernel
theorem dX8_condensedAt_4 : decode cX8_condensedAt 4 = .ok (.iload_n 3, 1) := by decide +kernel
theorem dX8_condensedAt_5 : decode cX8_condensedAt 5 = .ok (.iadd, 1) := by decide +kernel
theorem dX8_condensedAt_6 : decode cX8_condensedAt 6 = .ok (.istore 4, 2) := by decide +kernel
theorem dX8_condensedAt_8 : decode cX8_condensedAt 8 = .ok (.bipush 40, 2) := by decide +kernel
theorem dX8_condensedAt_10 : decode cX8_condensedAt 10 = .ok (.iload_n 2, 1) := by decide +kernel
theorem dX8_condensedAt_11 : decode cX8_condensedAt 11 = .ok (.imul, 1) := by decide +kernel
theorem dX8_condensedAt_12 : decode cX8_condensedAt 12 = .ok (.iload_n 3, 1) := by decide +kernel
theorem dX8_condensedAt_13 : decode cX8_condensedAt 13 = .ok (.iadd, 1) := by decide +kernel
theorem dX8_condensedAt_14 : decode cX8_condensedAt 14 = .ok (.istore 5, 2) := by decide +kernel
theorem dX8_condensedAt_16 : decode cX8_condensedAt 16 = .ok (.aload_n 0, 1) := by decide +kernel
theorem dX8_condensedAt_17 : decode cX8_condensedAt 17 = .ok (.getfield 7, 3) := by decide +kernel
theorem dX8_condensedAt_20 : decode cX8_condensedAt 20 = .ok (.iload 4, 2) := by decide +kernel
theorem dX8_condensedAt_22 : decode cX8_condensedAt 22 = .ok (.iaload, 1) := by decide +kernel
theorem dX8_condensedAt_23 : decode cX8_condensedAt 23 = .ok (.ifCond .eq 13, 3) := by decide +kernel
theorem dX8_condensedAt_26 : decode cX8_condensedAt 26 = .ok (.aload_n 0, 1) := by decide +kernel
theorem dX8_condensedAt_27 : decode cX8_condensedAt 27 = .ok (.getfield 7, 3) := by decide +kernel
theorem dX8_condensedAt_30 : decode cX8_condensedAt 30 = .ok (.iload 5, 2) := by decide +kernel
theorem dX8_condensedAt_32 : decode cX8_condensedAt 32 = .ok (.iaload, 1) := by decide +kernel
theorem dX8_condensedAt_33 : decode cX8_condensedAt 33 = .ok (.ifCond .ne 33, 3) := by decide +kernel
theorem dX8_condensedAt_36 : decode cX8_condensedAt 36 = .ok (.aload_n 0, 1) := by decide +kernel
theorem dX8_condensedAt_37 : decode cX8_condensedAt 37 = .ok (.getfield 7, 3) := by decide +kernel
theorem dX8_condensedAt_40 : decode cX8_condensedAt 40 = .ok (.iload 4, 2) := by decide +kernel
theorem dX8_condensedAt_42 : decode cX8_condensedAt 42 = .ok (.iaload, 1) := by decide +kernel
theorem dX8_condensedAt_43 : decode cX8_condensedAt 43 = .ok (.ifCond .le 7, 3) := by decide +kernel
theorem dX8_condensedAt_46 : decode cX8_condensedAt 46 = .ok (.iconst 3, 1) := by decide +kernel
theorem dX8_condensedAt_47 : decode cX8_condensedAt 47 = .ok (.goto 18, 3) := by decide +kernel
theorem dX8_condensedAt_50 : decode cX8_condensedAt 50 = .ok (.aload_n 0, 1) := by decide +kernel
theorem dX8_condensedAt_51 : decode cX8_condensedAt 51 = .ok (.getfield 7, 3) := by decide +kernel
theorem dX8_condensedAt_54 : decode cX8_condensedAt 54 = .ok (.iload 5, 2) := by decide +kernel
theorem dX8_condensedAt_56 : decode cX8_condensedAt 56 = .ok (.iaload, 1) := by decide +kernel
theorem dX8_condensedAt_57 : decode cX8_condensedAt 57 = .ok (.ifCond .le 7, 3) := by decide +kernel
theorem dX8_condensedAt_60 : decode cX8_condensedAt 60 = .ok (.iconst 4, 1) := by decide +kernel
theorem dX8_condensedAt_61 : decode cX8_condensedAt 61 = .ok (.goto 4, 3) := by decide +kernel
theorem dX8_condensedAt_64 : decode cX8_condensedAt 64 = .ok (.iconst 0, 1) := by decide +kernel
theorem dX8_condensedAt_65 : decode cX8_condensedAt 65 = .ok (.ireturn, 1) := by decide +kernel
theorem dX8_condensedAt_66 : decode cX8_condensedAt 66 = .ok (.aload_n 0, 1) := by decide +kernel
theorem dX8_condensedAt_67 : decode cX8_condensedAt 67 = .ok (.getfield 7, 3) := by decide +kernel
theorem dX8_condensedAt_70 : decode cX8_condensedAt 70 = .ok (.iload 4, 2) := by decide +kernel
theorem dX8_condensedAt_72 : decode cX8_condensedAt 72 = .ok (.iaload, 1) := by decide +kernel
theorem dX8_condensedAt_73 : decode cX8_condensedAt 73 = .ok (.aload_n 0, 1) := by decide +kernel
theorem dX8_condensedAt_74 : decode cX8_condensedAt 74 = .ok (.getfield 7, 3) := by decide +kernel
theorem dX8_condensedAt_77 : decode cX8_condensedAt 77 = .ok (.iload 5, 2) := by decide +kernel
theorem dX8_condensedAt_79 : decode cX8_condensedAt 79 = .ok (.iaload, 1) := by decide +kernel
theorem dX8_condensedAt_80 : decode cX8_condensedAt 80 = .ok (.if_icmp .ne 29, 3) := by decide +kernel
theorem dX8_condensedAt_83 : decode cX8_condensedAt 83 = .ok (.aload_n 0, 1) := by decide +kernel
theorem dX8_condensedAt_84 : decode cX8_condensedAt 84 = .ok (.iload 4, 2) := by decide +kernel
theorem dX8_condensedAt_86 : decode cX8_condensedAt 86 = .ok (.iload 5, 2) := by decide +kernel
theorem dX8_condensedAt_88 : decode cX8_condensedAt 88 = .ok (.iconst 1, 1) := by decide +kernel
theorem dX8_condensedAt_89 : decode cX8_condensedAt 89 = .ok (.invokevirtual 193, 3) := by decide +kernel
theorem dX8_condensedAt_92 : decode cX8_condensedAt 92 = .ok (.ifCond .eq 17, 3) := by decide +kernel
theorem dX8_condensedAt_95 : decode cX8_condensedAt 95 = .ok (.aload_n 0, 1) := by decide +kernel
theorem dX8_condensedAt_96 : decode cX8_condensedAt 96 = .ok (.iload 5, 2) := by decide +kernel
theorem dX8_condensedAt_98 : decode cX8_condensedAt 98 = .ok (.iload 4, 2) := by decide +kernel
theorem dX8_condensedAt_100 : decode cX8_condensedAt 100 = .ok (.iconst 1, 1) := by decide +kernel
theorem dX8_condensedAt_101 : decode cX8_condensedAt 101 = .ok (.invokevirtual 193, 3) := by decide +kernel
theorem dX8_condensedAt_104 : decode cX8_condensedAt 104 = .ok (.ifCond .eq 5, 3) := by decide +kernel
theorem dX8_condensedAt_107 : decode cX8_condensedAt 107 = .ok (.iconst 1, 1) := by decide +kernel
theorem dX8_condensedAt_108 : decode cX8_condensedAt 108 = .ok (.ireturn, 1) := by decide +kernel
theorem dX8_condensedAt_109 : decode cX8_condensedAt 109 = .ok (.aload_n 0, 1) := by decide +kernel
theorem dX8_condensedAt_110 : decode cX8_condensedAt 110 = .ok (.iload 4, 2) := by decide +kernel
theorem dX8_condensedAt_112 : decode cX8_condensedAt 112 = .ok (.iload 5, 2) := by decide +kernel
theorem dX8_condensedAt_114 : decode cX8_condensedAt 114 = .ok (.iconst 0, 1) := by decide +kernel
theorem dX8_condensedAt_115 : decode cX8_condensedAt 115 = .ok (.invokevirtual 193, 3) := by decide +kernel
theorem dX8_condensedAt_118 : decode cX8_condensedAt 118 = .ok (.ifCond .eq 19, 3) := by decide +kernel
theorem dX8_condensedAt_121 : decode cX8_condensedAt 121 = .ok (.aload_n 0, 1) := by decide +kernel
theorem dX8_condensedAt_122 : decode cX8_condensedAt 122 = .ok (.iload 5, 2) := by decide +kernel
theorem dX8_condensedAt_124 : decode cX8_condensedAt 124 = .ok (.iload 4, 2) := by decide +kernel
theorem dX8_condensedAt_126 : decode cX8_condensedAt 126 = .ok (.iconst 0, 1) := by decide +kernel
theorem dX8_condensedAt_127 : decode cX8_condensedAt 127 = .ok (.invokevirtual 193, 3) := by decide +kernel
theorem dX8_condensedAt_130 : decode cX8_condensedAt 130 = .ok (.ifCond .eq 7, 3) := by decide +kernel
theorem dX8_condensedAt_133 : decode cX8_condensedAt 133 = .ok (.iconst 2, 1) := by decide +kernel
theorem dX8_condensedAt_134 : decode cX8_condensedAt 134 = .ok (.goto 4, 3) := by decide +kernel
theorem dX8_condensedAt_137 : decode cX8_condensedAt 137 = .ok (.iconst 5, 1) := by decide +kernel
theorem dX8_condensedAt_138 : decode cX8_condensedAt 138 = .ok (.ireturn, 1) := by decide +kernel
set_option maxRecDepth 20000 in
theorem ggX8_condensed_X8_isVoice : GoodIn wsX8_condensed wsX8_isVoice := goodIn_r _ [5, 6, 7, 8, 4, 9, 28, 29, 30, 31, 32, 33, 34, 35, 36, 37, 38, 39, 40, 41, 42, 43, 44, 45, 46, 47, 48, 49, 50, 51, 52, 53, 54, 55, 56, 57, 58, 59, 60, 61, 62, 63] (by decide +kernel) (by decide +kernel)
set_option maxRecDepth 20000 in
theorem gX8_condensed_X8_isVoice : GoodIn wsX8_condensed (wsV RX8 115 RX8 yX8_isVoice wsX8_isVoice) := goodIn_app (goodIn_of _ (by decide +kernel)) ggX8_condensed_X8_isVoice
set_option maxRecDepth 20000 in
theorem ggX8_condensed_X8_isBar : GoodIn wsX8_condensed wsX8_isBar := goodIn_r _ [13, 14, 7, 8, 4, 9, 28, 29, 30, 31, 32, 33, 34, 35, 36, 37, 38, 39, 40, 41, 42, 43, 44, 45, 46, 47, 48, 49, 50, 51, 52, 53, 54, 55, 56, 57, 58, 59, 60, 61, 62, 63] (by decide +kernel) (by decide +kernel)
set_option maxRecDepth 20000 in
theorem gX8_condensed_X8_isBar : GoodIn wsX8_condensed (wsV RX8 119 RX8 yX8_isBar wsX8_isBar) := goodIn_app (goodIn_of _ (by decide +kernel)) ggX8_condensed_X8_isBar
set_option maxRecDepth 20000 in
theorem ggX8_condensed_X8_condensedAt : GoodIn wsX8_condensed wsX8_condensedAt := goodIn_r _ [18, 19, 20, 21, 22, 4, 23, 24, 25, 26, 27, 28, 29, 30, 31, 32, 33, 34, 35, 36, 37, 38, 39, 40, 41, 42, 43, 44, 45, 46, 47, 48, 49, 50, 51, 52, 53, 54, 55, 56, 57, 58, 59, 60, 61, 62, 63] (by decide +kernel) (by decide +kernel)
set_option maxRecDepth 20000 in
theorem gX8_condensed_X8_condensedAt : GoodIn wsX8_condensed (wsV RX8 197 RX8 yX8_condensedAt wsX8_condensedAt) := goodIn_app (goodIn_of _ (by decide +kernel)) ggX8_condensed_X8_condensedAt
theorem dX8_condensed_0 : decode cX8_condensed 0 = .ok (.aload_n 0, 1) := by decide +kernel
theorem dX8_condensed_1 : decode cX8_condensed 1 = .ok (.iload_n 1, 1) := by decide +kernel
theorem dX8_condensed_2 : decode cX8_condensed 2 = .ok (.invokevirtual 115, 3) := by decide +kernel
theorem dX8_condensed_5 : decode cX8_condensed 5 = .ok (.ifCond .eq 19, 3) := by decide +kernel
theorem dX8_condensed_8 : decode cX8_condensed 8 = .ok (.aload_n 0, 1) := by decide +kernel
theorem dX8_condensed_9 : decode cX8_condensed 9 = .ok (.iload_n 2, 1) := by decide +kernel
theorem dX8_condensed_10 : decode cX8_condensed 10 = .ok (.invokevirtual 115, 3) := by decide +kernel
theorem dX8_condensed_13 : decode cX8_condensed 13 = .ok (.ifCond .eq 11, 3) := by decide +kernel
theorem dX8_condensed_16 : decode cX8_condensed 16 = .ok (.aload_n 0, 1) := by decide +kernel
theorem dX8_condensed_17 : decode cX8_condensed 17 = .ok (.iload_n 3, 1) := by decide +kernel
theorem dX8_condensed_18 : decode cX8_condensed 18 = .ok (.invokevirtual 119, 3) := by decide +kernel
theorem dX8_condensed_21 : decode cX8_condensed 21 = .ok (.ifCond .ne 6, 3) := by decide +kernel
theorem dX8_condensed_24 : decode cX8_condensed 24 = .ok (.bipush (-101), 2) := by decide +kernel
theorem dX8_condensed_26 : decode cX8_condensed 26 = .ok (.ireturn, 1) := by decide +kernel
theorem dX8_condensed_27 : decode cX8_condensed 27 = .ok (.iload_n 1, 1) := by decide +kernel
theorem dX8_condensed_28 : decode cX8_condensed 28 = .ok (.iload_n 2, 1) := by decide +kernel
theorem dX8_condensed_29 : decode cX8_condensed 29 = .ok (.if_icmp .ne 8, 3) := by decide +kernel
theorem dX8_condensed_32 : decode cX8_condensed 32 = .ok (.bipush (-103), 2) := by decide +kernel
theorem dX8_condensed_34 : decode cX8_condensed 34 = .ok (.goto 10, 3) := by decide +kernel
theorem dX8_condensed_37 : decode cX8_condensed 37 = .ok (.aload_n 0, 1) := by decide +kernel
theorem dX8_condensed_38 : decode cX8_condensed 38 = .ok (.iload_n 1, 1) := by decide +kernel
theorem dX8_condensed_39 : decode cX8_condensed 39 = .ok (.iload_n 2, 1) := by decide +kernel
theorem dX8_condensed_40 : decode cX8_condensed 40 = .ok (.iload_n 3, 1) := by decide +kernel
theorem dX8_condensed_41 : decode cX8_condensed 41 = .ok (.invokevirtual 197, 3) := by decide +kernel
theorem dX8_condensed_44 : decode cX8_condensed 44 = .ok (.ireturn, 1) := by decide +kernel
set_option maxRecDepth 20000 in
theorem ggX8_together_X8_isVoice : GoodIn wsX8_together wsX8_isVoice := goodIn_r _ [6, 7, 8, 9, 5, 10, 24, 25, 26, 27, 28, 29, 30, 31, 32, 33, 34, 35, 36, 37, 38, 39, 40, 41, 42, 43, 44, 45, 46, 47, 48, 49, 50, 51, 52, 53, 54, 55, 56, 57, 58, 59] (by decide +kernel) (by decide +kernel)
set_option maxRecDepth 20000 in
theorem gX8_together_X8_isVoice : GoodIn wsX8_together (wsV RX8 115 RX8 yX8_isVoice wsX8_isVoice) := goodIn_app (goodIn_of _ (by decide +kernel)) ggX8_together_X8_isVoice
set_option maxRecDepth 20000 in
theorem ggX8_together_X8_condensedAt : GoodIn wsX8_together wsX8_condensedAt := goodIn_r _ [14, 15, 16, 17, 18, 5, 19, 20, 21, 22, 23, 24, 25, 26, 27, 28, 29, 30, 31, 32, 33, 34, 35, 36, 37, 38, 39, 40, 41, 42, 43, 44, 45, 46, 47, 48, 49, 50, 51, 52, 53, 54, 55, 56, 57, 58, 59] (by decide +kernel) (by decide +kernel)
set_option maxRecDepth 20000 in
theorem gX8_together_X8_condensedAt : GoodIn wsX8_together (wsV RX8 197 RX8 yX8_condensedAt wsX8_condensedAt) := goodIn_app (goodIn_of _ (by decide +kernel)) ggX8_together_X8_condensedAt
theorem dX8_together_0 : decode cX8_together 0 = .ok (.aload_n 0, 1) := by decide +kernel
theorem dX8_together_1 : decode cX8_together 1 = .ok (.iload_n 1, 1) := by decide +kernel
theorem dX8_together_2 : decode cX8_together 2 = .ok (.invokevirtual 115, 3) := by decide +kernel
theorem dX8_together_5 : decode cX8_together 5 = .ok (.ifCond .eq 11, 3) := by decide +kernel
theorem dX8_together_8 : decode cX8_together 8 = .ok (.aload_n 0, 1) := by decide +kernel
theorem dX8_together_9 : decode cX8_together 9 = .ok (.iload_n 2, 1) := by decide +kernel
theorem dX8_together_10 : decode cX8_together 10 = .ok (.invokevirtual 115, 3) := by decide +kernel
theorem dX8_together_13 : decode cX8_together 13 = .ok (.ifCond .ne 6, 3) := by decide +kernel
theorem dX8_together_16 : decode cX8_together 16 = .ok (.bipush (-101), 2) := by decide +kernel
theorem dX8_together_18 : decode cX8_together 18 = .ok (.ireturn, 1) := by decide +kernel
theorem dX8_together_19 : decode cX8_together 19 = .ok (.iload_n 1, 1) := by decide +kernel
theorem dX8_together_20 : decode cX8_together 20 = .ok (.iload_n 2, 1) := by decide +kernel
theorem dX8_together_21 : decode cX8_together 21 = .ok (.if_icmp .ne 6, 3) := by decide +kernel
theorem dX8_together_24 : decode cX8_together 24 = .ok (.bipush (-103), 2) := by decide +kernel
theorem dX8_together_26 : decode cX8_together 26 = .ok (.ireturn, 1) := by decide +kernel
theorem dX8_together_27 : decode cX8_together 27 = .ok (.iconst 0, 1) := by decide +kernel
theorem dX8_together_28 : decode cX8_together 28 = .ok (.istore_n 3, 1) := by decide +kernel
theorem dX8_together_29 : decode cX8_together 29 = .ok (.iconst 0, 1) := by decide +kernel
theorem dX8_together_30 : decode cX8_together 30 = .ok (.istore 4, 2) := by decide +kernel
theorem dX8_together_32 : decode cX8_together 32 = .ok (.iload 4, 2) := by decide +kernel
theorem dX8_together_34 : decode cX8_together 34 = .ok (.aload_n 0, 1) := by decide +kernel
theorem dX8_together_35 : decode cX8_together 35 = .ok (.getfield 112, 3) := by decide +kernel
theorem dX8_together_38 : decode cX8_together 38 = .ok (.if_icmp .ge 29, 3) := by decide +kernel
theorem dX8_together_41 : decode cX8_together 41 = .ok (.iload_n 3, 1) := by decide +kernel
theorem dX8_together_42 : decode cX8_together 42 = .ok (.aload_n 0, 1) := by decide +kernel
theorem dX8_together_43 : decode cX8_together 43 = .ok (.iload_n 1, 1) := by decide +kernel
theorem dX8_together_44 : decode cX8_together 44 = .ok (.iload_n 2, 1) := by decide +kernel
theorem dX8_together_45 : decode cX8_together 45 = .ok (.iload 4, 2) := by decide +kernel
theorem dX8_together_47 : decode cX8_together 47 = .ok (.invokevirtual 197, 3) := by decide +kernel
theorem dX8_together_50 : decode cX8_together 50 = .ok (.iconst 5, 1) := by decide +kernel
theorem dX8_together_51 : decode cX8_together 51 = .ok (.if_icmp .ge 7, 3) := by decide +kernel
theorem dX8_together_54 : decode cX8_together 54 = .ok (.iconst 1, 1) := by decide +kernel
theorem dX8_together_55 : decode cX8_together 55 = .ok (.goto 4, 3) := by decide +kernel
theorem dX8_together_58 : decode cX8_together 58 = .ok (.iconst 0, 1) := by decide +kernel
theorem dX8_together_59 : decode cX8_together 59 = .ok (.iadd, 1) := by decide +kernel
theorem dX8_together_60 : decode cX8_together 60 = .ok (.istore_n 3, 1) := by decide +kernel
theorem dX8_together_61 : decode cX8_together 61 = .ok (.iinc 4 1, 3) := by decide +kernel
theorem dX8_together_64 : decode cX8_together 64 = .ok (.goto (-32), 3) := by decide +kernel
theorem dX8_together_67 : decode cX8_together 67 = .ok (.iload_n 3, 1) := by decide +kernel
theorem dX8_together_68 : decode cX8_together 68 = .ok (.ireturn, 1) := by decide +kernel
set_option maxRecDepth 20000 in
theorem ggX8_count_X8_lastNumber : GoodIn wsX8_count wsX8_lastNumber := goodIn_r _ [10, 4, 11, 12, 13, 14, 9, 15, 16, 17, 18, 19, 20, 21, 22, 23, 24, 25, 26, 27, 28, 29, 30, 31, 32, 33, 34, 35, 36, 37, 38, 39, 40, 41, 42, 43, 44, 45, 46, 47, 48, 49, 50, 51, 52, 53, 54, 55, 56, 57, 58, 59, 60, 61, 62, 63, 64, 65, 66, 67, 68, 69, 70, 71, 72, 73, 74] (by decide +kernel) (by decide +kernel)
set_option maxRecDepth 20000 in
theorem gX8_count_X8_lastNumber : GoodIn wsX8_count (wsV RX8 187 RX8 yX8_lastNumber wsX8_lastNumber) := goodIn_app (goodIn_of _ (by decide +kernel)) ggX8_count_X8_lastNumber
theorem dX8_count_0 : decode cX8_count 0 = .ok (.iconst 0, 1) := by decide +kernel
theorem dX8_count_1 : decode cX8_count 1 = .ok (.istore_n 2, 1) := by decide +kernel
theorem dX8_count_2 : decode cX8_count 2 = .ok (.iload_n 1, 1) := by decide +kernel
theorem dX8_count_3 : decode cX8_count 3 = .ok (.tableswitch 147 0 5 #[37, 42, 47, 73, 106, 113], 37) := by decide +kernel
theorem dX8_count_40 : decode cX8_count 40 = .ok (.aload_n 0, 1) := by decide +kernel
theorem dX8_count_41 : decode cX8_count 41 = .ok (.getfield 105, 3) := by decide +kernel
theorem dX8_count_44 : decode cX8_count 44 = .ok (.ireturn, 1) := by decide +kernel
theorem dX8_count_45 : decode cX8_count 45 = .ok (.aload_n 0, 1) := by decide +kernel
theorem dX8_count_46 : decode cX8_count 46 = .ok (.getfield 112, 3) := by decide +kernel
theorem dX8_count_49 : decode cX8_count 49 = .ok (.ireturn, 1) := by decide +kernel
theorem dX8_count_50 : decode cX8_count 50 = .ok (.iconst 0, 1) := by decide +kernel
theorem dX8_count_51 : decode cX8_count 51 = .ok (.istore_n 3, 1) := by decide +kernel
theorem dX8_count_52 : decode cX8_count 52 = .ok (.iload_n 3, 1) := by decide +kernel
theorem dX8_count_53 : decode cX8_count 53 = .ok (.sipush 240, 3) := by decide +kernel
theorem dX8_count_56 : decode cX8_count 56 = .ok (.if_icmp .ge 18, 3) := by decide +kernel
theorem dX8_count_59 : decode cX8_count 59 = .ok (.iload_n 2, 1) := by decide +kernel
theorem dX8_count_60 : decode cX8_count 60 = .ok (.aload_n 0, 1) := by decide +kernel
theorem dX8_count_61 : decode cX8_count 61 = .ok (.getfield 7, 3) := by decide +kernel
theorem dX8_count_64 : decode cX8_count 64 = .ok (.iload_n 3, 1) := by decide +kernel
theorem dX8_count_65 : decode cX8_count 65 = .ok (.iaload, 1) := by decide +kernel
theorem dX8_count_66 : decode cX8_count 66 = .ok (.iadd, 1) := by decide +kernel
theorem dX8_count_67 : decode cX8_count 67 = .ok (.istore_n 2, 1) := by decide +kernel
theorem dX8_count_68 : decode cX8_count 68 = .ok (.iinc 3 1, 3) := by decide +kernel
theorem dX8_count_71 : decode cX8_count 71 = .ok (.goto (-19), 3) := by decide +kernel
theorem dX8_count_74 : decode cX8_count 74 = .ok (.iload_n 2, 1) := by decide +kernel
theorem dX8_count_75 : decode cX8_count 75 = .ok (.ireturn, 1) := by decide +kernel
theorem dX8_count_76 : decode cX8_count 76 = .ok (.iconst 0, 1) := by decide +kernel
theorem dX8_count_77 : decode cX8_count 77 = .ok (.istore_n 3, 1) := by decide +kernel
theorem dX8_count_78 : decode cX8_count 78 = .ok (.iload_n 3, 1) := by decide +kernel
theorem dX8_count_79 : decode cX8_count 79 = .ok (.bipush 6, 2) := by decide +kernel
theorem dX8_count_81 : decode cX8_count 81 = .ok (.if_icmp .ge 26, 3) := by decide +kernel
theorem dX8_count_84 : decode cX8_count 84 = .ok (.iload_n 2, 1) := by decide +kernel
theorem dX8_count_85 : decode cX8_count 85 = .ok (.aload_n 0, 1) := by decide +kernel
theorem dX8_count_86 : decode cX8_count 86 = .ok (.getfield 42, 3) := by decide +kernel
theorem dX8_count_89 : decode cX8_count 89 = .ok (.iload_n 3, 1) := by decide +kernel
theorem dX8_count_90 : decode cX8_count 90 = .ok (.baload, 1) := by decide +kernel
theorem dX8_count_91 : decode cX8_count 91 = .ok (.ifCond .eq 7, 3) := by decide +kernel
theorem dX8_count_94 : decode cX8_count 94 = .ok (.iconst 1, 1) := by decide +kernel
theorem dX8_count_95 : decode cX8_count 95 = .ok (.goto 4, 3) := by decide +kernel
theorem dX8_count_98 : decode cX8_count 98 = .ok (.iconst 0, 1) := by decide +kernel
theorem dX8_count_99 : decode cX8_count 99 = .ok (.iadd, 1) := by decide +kernel
theorem dX8_count_100 : decode cX8_count 100 = .ok (.istore_n 2, 1) := by decide +kernel
theorem dX8_count_101 : decode cX8_count 101 = .ok (.iinc 3 1, 3) := by decide +kernel
theorem dX8_count_104 : decode cX8_count 104 = .ok (.goto (-26), 3) := by decide +kernel
theorem dX8_count_107 : decode cX8_count 107 = .ok (.iload_n 2, 1) := by decide +kernel
theorem dX8_count_108 : decode cX8_count 108 = .ok (.ireturn, 1) := by decide +kernel
theorem dX8_count_109 : decode cX8_count 109 = .ok (.aload_n 0, 1) := by decide +kernel
theorem dX8_count_110 : decode cX8_count 110 = .ok (.bipush 6, 2) := by decide +kernel
theorem dX8_count_112 : decode cX8_count 112 = .ok (.invokevirtual 187, 3) := by decide +kernel
theorem dX8_count_115 : decode cX8_count 115 = .ok (.ireturn, 1) := by decide +kernel
theorem dX8_count_116 : decode cX8_count 116 = .ok (.iconst 0, 1) := by decide +kernel
theorem dX8_count_117 : decode cX8_count 117 = .ok (.istore_n 3, 1) := by decide +kernel
theorem dX8_count_118 : decode cX8_count 118 = .ok (.iload_n 3, 1) := by decide +kernel
theorem dX8_count_119 : decode cX8_count 119 = .ok (.sipush 200, 3) := by decide +kernel
theorem dX8_count_122 : decode cX8_count 122 = .ok (.if_icmp .ge 26, 3) := by decide +kernel
theorem dX8_count_125 : decode cX8_count 125 = .ok (.iload_n 2, 1) := by decide +kernel
theorem dX8_count_126 : decode cX8_count 126 = .ok (.aload_n 0, 1) := by decide +kernel
theorem dX8_count_127 : decode cX8_count 127 = .ok (.getfield 25, 3) := by decide +kernel
theorem dX8_count_130 : decode cX8_count 130 = .ok (.iload_n 3, 1) := by decide +kernel
theorem dX8_count_131 : decode cX8_count 131 = .ok (.baload, 1) := by decide +kernel
theorem dX8_count_132 : decode cX8_count 132 = .ok (.ifCond .eq 7, 3) := by decide +kernel
theorem dX8_count_135 : decode cX8_count 135 = .ok (.iconst 1, 1) := by decide +kernel
theorem dX8_count_136 : decode cX8_count 136 = .ok (.goto 4, 3) := by decide +kernel
theorem dX8_count_139 : decode cX8_count 139 = .ok (.iconst 0, 1) := by decide +kernel
theorem dX8_count_140 : decode cX8_count 140 = .ok (.iadd, 1) := by decide +kernel
theorem dX8_count_141 : decode cX8_count 141 = .ok (.istore_n 2, 1) := by decide +kernel
theorem dX8_count_142 : decode cX8_count 142 = .ok (.iinc 3 1, 3) := by decide +kernel
theorem dX8_count_145 : decode cX8_count 145 = .ok (.goto (-27), 3) := by decide +kernel
theorem dX8_count_148 : decode cX8_count 148 = .ok (.iload_n 2, 1) := by decide +kernel
theorem dX8_count_149 : decode cX8_count 149 = .ok (.ireturn, 1) := by decide +kernel
theorem dX8_count_150 : decode cX8_count 150 = .ok (.bipush (-102), 2) := by decide +kernel
theorem dX8_count_152 : decode cX8_count 152 = .ok (.ireturn, 1) := by decide +kernel
theorem kX8_init_7 : Cond.fieldLink RX8 7 (TX8 2).1 (TX8 2).2.1 (TX8 2).2.2.1 ∈ wsX8_init := by decide +kernel
theorem kX8_init_13 : Cond.fieldLink RX8 13 (TX8 3).1 (TX8 3).2.1 (TX8 3).2.2.1 ∈ wsX8_init := by decide +kernel
theorem kX8_init_16 : Cond.fieldLink RX8 16 (TX8 4).1 (TX8 4).2.1 (TX8 4).2.2.1 ∈ wsX8_init := by decide +kernel
theorem kX8_init_19 : Cond.fieldLink RX8 19 (TX8 5).1 (TX8 5).2.1 (TX8 5).2.2.1 ∈ wsX8_init := by decide +kernel
theorem kX8_init_22 : Cond.fieldLink RX8 22 (TX8 6).1 (TX8 6).2.1 (TX8 6).2.2.1 ∈ wsX8_init := by decide +kernel
theorem kX8_init_25 : Cond.fieldLink RX8 25 (TX8 7).1 (TX8 7).2.1 (TX8 7).2.2.1 ∈ wsX8_init := by decide +kernel
theorem kX8_init_29 : Cond.fieldLink RX8 29 (TX8 8).1 (TX8 8).2.1 (TX8 8).2.2.1 ∈ wsX8_init := by decide +kernel
theorem kX8_init_32 : Cond.fieldLink RX8 32 (TX8 9).1 (TX8 9).2.1 (TX8 9).2.2.1 ∈ wsX8_init := by decide +kernel
theorem kX8_init_35 : Cond.fieldLink RX8 35 (TX8 10).1 (TX8 10).2.1 (TX8 10).2.2.1 ∈ wsX8_init := by decide +kernel
theorem kX8_init_38 : Cond.fieldLink RX8 38 (TX8 11).1 (TX8 11).2.1 (TX8 11).2.2.1 ∈ wsX8_init := by decide +kernel
theorem kX8_init_42 : Cond.fieldLink RX8 42 (TX8 12).1 (TX8 12).2.1 (TX8 12).2.2.1 ∈ wsX8_init := by decide +kernel
theorem kX8_init_45 : Cond.fieldLink RX8 45 (TX8 13).1 (TX8 13).2.1 (TX8 13).2.2.1 ∈ wsX8_init := by decide +kernel
theorem kX8_init_48 : Cond.fieldLink RX8 48 (TX8 14).1 (TX8 14).2.1 (TX8 14).2.2.1 ∈ wsX8_init := by decide +kernel
theorem kX8_init_51 : Cond.fieldLink RX8 51 (TX8 15).1 (TX8 15).2.1 (TX8 15).2.2.1 ∈ wsX8_init := by decide +kernel
theorem kX8_init_54 : Cond.fieldLink RX8 54 (TX8 16).1 (TX8 16).2.1 (TX8 16).2.2.1 ∈ wsX8_init := by decide +kernel
theorem kX8_init_57 : Cond.fieldLink RX8 57 (TX8 17).1 (TX8 17).2.1 (TX8 17).2.2.1 ∈ wsX8_init := by decide +kernel
theorem kX8_init_60 : Cond.fieldLink RX8 60 (TX8 18).1 (TX8 18).2.1 (TX8 18).2.2.1 ∈ wsX8_init := by decide +kernel
theorem kX8_init_63 : Cond.fieldLink RX8 63 (TX8 19).1 (TX8 19).2.1 (TX8 19).2.2.1 ∈ wsX8_init := by decide +kernel
theorem kX8_init_66 : Cond.fieldLink RX8 66 (TX8 20).1 (TX8 20).2.1 (TX8 20).2.2.1 ∈ wsX8_init := by decide +kernel
theorem kX8_init_69 : Cond.fieldLink RX8 69 (TX8 21).1 (TX8 21).2.1 (TX8 21).2.2.1 ∈ wsX8_init := by decide +kernel
theorem kX8_init_72 : Cond.fieldLink RX8 72 (TX8 22).1 (TX8 22).2.1 (TX8 22).2.2.1 ∈ wsX8_init := by decide +kernel
theorem kX8_init_75 : Cond.fieldLink RX8 75 (TX8 23).1 (TX8 23).2.1 (TX8 23).2.2.1 ∈ wsX8_init := by decide +kernel
theorem kX8_init_78 : Cond.fieldLink RX8 78 (TX8 24).1 (TX8 24).2.1 (TX8 24).2.2.1 ∈ wsX8_init := by decide +kernel
theorem kX8_init_81 : Cond.fieldLink RX8 81 (TX8 27).1 (TX8 27).2.1 (TX8 27).2.2.1 ∈ wsX8_init := by decide +kernel
theorem kX8_init_84 : Cond.fieldLink RX8 84 (TX8 28).1 (TX8 28).2.1 (TX8 28).2.2.1 ∈ wsX8_init := by decide +kernel
theorem kX8_init_87 : Cond.fieldLink RX8 87 (TX8 29).1 (TX8 29).2.1 (TX8 29).2.2.1 ∈ wsX8_init := by decide +kernel
theorem kX8_init_90 : Cond.fieldLink RX8 90 (TX8 30).1 (TX8 30).2.1 (TX8 30).2.2.1 ∈ wsX8_init := by decide +kernel
theorem kX8_init_93 : Cond.fieldLink RX8 93 (TX8 32).1 (TX8 32).2.1 (TX8 32).2.2.1 ∈ wsX8_init := by decide +kernel
theorem kX8_init_96 : Cond.fieldLink RX8 96 (TX8 33).1 (TX8 33).2.1 (TX8 33).2.2.1 ∈ wsX8_init := by decide +kernel
theorem kX8_init_99 : Cond.fieldLink RX8 99 (TX8 34).1 (TX8 34).2.1 (TX8 34).2.2.1 ∈ wsX8_init := by decide +kernel
theorem kX8_init_102 : Cond.fieldLink RX8 102 (TX8 35).1 (TX8 35).2.1 (TX8 35).2.2.1 ∈ wsX8_init := by decide +kernel
theorem iX8_init_X8 : ∀ w ∈ u_ws RX8 TX8 36, w ∈ wsX8_init := by decide +kernel
theorem kaX8_init_Z : Cond.arrayClass .boolean ∈ wsX8_init := by decide +kernel
theorem kaX8_init_I : Cond.arrayClass .int ∈ wsX8_init := by decide +kernel
theorem kqX8_init : Cond.code objectInit ⟨#[0xb1]⟩ 1 none ∈ wsX8_init := by decide +kernel
theorem kpX8_init : Cond.instanceMethod objectInit ∈ wsX8_init := by decide +kernel
theorem koX8_init : Cond.methodLink RX8 1 objectInit ∈ wsX8_init := by decide +kernel
set_option maxHeartbeats 4000000 in
set_option maxRecDepth 100000 in
theorem RX8_init (l : Launch) (D : va_G) (g : q_A) (S : q_S) (a0 : Nat) (Q : q_S → Prop) (h : wX8_init a0 Q S) : q_Mv l yX8_init wsX8_init rmX8_init D g [.ref a0] S Q := by
  refine q_Mv.of (cc := cX8_init) (nL := 1) (by decide +kernel) rfl (Nat.le_of_ble_eq_true rfl) rfl ?_
  intro p e s m args below meth c ls A C hr hnm hp hl
  have C : q_X p s m args meth c cX8_init 1 RX8 wsX8_init D g A := C
  have hx := C.1
  have hb := C.2.1
  have hl : q_l ls 1 [(0, .ref a0)] := hl
  unfold wX8_init at h
  refine lv_aload_n hx hb dX8_init_0 rfl (q_at hl 0 rfl) ?_
  refine q_objI C koX8_init kpX8_init kqX8_init hl.1.1 dX8_init_1 (Nat.le_of_ble_eq_true rfl) (Nat.le_of_ble_eq_true rfl) ?_
  refine lv_aload_n hx hb dX8_init_4 rfl (q_at hl 0 rfl) ?_
  refine lv_sipush (v := 240) hx hb dX8_init_5 (by decide) ?_
  refine q_rNI (N' := 240) C hp h kaX8_init_I (by decide) (by decide) (by decide) (Nat.le_of_ble_eq_true rfl) (Nat.le_of_ble_eq_true rfl) dX8_init_8 (fun q_1 S_2 H h hp => ?_)
  refine W.widen (k := 1) (n := 240) (Nat.le_of_ble_eq_true rfl) (Nat.le_of_ble_eq_true rfl) ?_
  refine q_fP C hp h hnm tyX8 tyX8_ok nmX8 rfl iX8_init_X8 (by decide) kX8_init_7 rfl rfl rfl rfl rfl dX8_init_10 (fun S_3 H locs h hp => ?_)
  refine lv_aload_n hx hb dX8_init_13 rfl (q_at hl 0 rfl) ?_
  refine lv_sipush (v := 1920) hx hb dX8_init_14 (by decide) ?_
  refine q_rNI (N' := 1920) C hp h kaX8_init_I (by decide) (by decide) (by decide) (Nat.le_of_ble_eq_true rfl) (Nat.le_of_ble_eq_true rfl) dX8_init_17 (fun q_4 S_5 H h hp => ?_)
  refine W.widen (k := 2) (n := 2160) (Nat.le_of_ble_eq_true rfl) (Nat.le_of_ble_eq_true rfl) ?_
  refine q_fP C hp h hnm tyX8 tyX8_ok nmX8 rfl iX8_init_X8 (by decide) kX8_init_13 rfl rfl rfl rfl rfl dX8_init_19 (fun S_6 H locs h hp => ?_)
  refine lv_aload_n hx hb dX8_init_22 rfl (q_at hl 0 rfl) ?_
  refine lv_sipush (v := 1920) hx hb dX8_init_23 (by decide) ?_
  refine q_rNI (N' := 1920) C hp h kaX8_init_I (by decide) (by decide) (by decide) (Nat.le_of_ble_eq_true rfl) (Nat.le_of_ble_eq_true rfl) dX8_init_26 (fun q_7 S_8 H h hp => ?_)
  refine W.widen (k := 3) (n := 4080) (Nat.le_of_ble_eq_true rfl) (Nat.le_of_ble_eq_true rfl) ?_
  refine q_fP C hp h hnm tyX8 tyX8_ok nmX8 rfl iX8_init_X8 (by decide) kX8_init_16 rfl rfl rfl rfl rfl dX8_init_28 (fun S_9 H locs h hp => ?_)
  refine lv_aload_n hx hb dX8_init_31 rfl (q_at hl 0 rfl) ?_
  refine lv_sipush (v := 1920) hx hb dX8_init_32 (by decide) ?_
  refine q_rNI (N' := 1920) C hp h kaX8_init_I (by decide) (by decide) (by decide) (Nat.le_of_ble_eq_true rfl) (Nat.le_of_ble_eq_true rfl) dX8_init_35 (fun q_10 S_11 H h hp => ?_)
  refine W.widen (k := 4) (n := 6000) (Nat.le_of_ble_eq_true rfl) (Nat.le_of_ble_eq_true rfl) ?_
  refine q_fP C hp h hnm tyX8 tyX8_ok nmX8 rfl iX8_init_X8 (by decide) kX8_init_19 rfl rfl rfl rfl rfl dX8_init_37 (fun S_12 H locs h hp => ?_)
  refine lv_aload_n hx hb dX8_init_40 rfl (q_at hl 0 rfl) ?_
  refine lv_sipush (v := 1920) hx hb dX8_init_41 (by decide) ?_
  refine q_rNI (N' := 1920) C hp h kaX8_init_I (by decide) (by decide) (by decide) (Nat.le_of_ble_eq_true rfl) (Nat.le_of_ble_eq_true rfl) dX8_init_44 (fun q_13 S_14 H h hp => ?_)
  refine W.widen (k := 5) (n := 7920) (Nat.le_of_ble_eq_true rfl) (Nat.le_of_ble_eq_true rfl) ?_
  refine q_fP C hp h hnm tyX8 tyX8_ok nmX8 rfl iX8_init_X8 (by decide) kX8_init_22 rfl rfl rfl rfl rfl dX8_init_46 (fun S_15 H locs h hp => ?_)
  refine lv_aload_n hx hb dX8_init_49 rfl (q_at hl 0 rfl) ?_
  refine lv_sipush (v := 200) hx hb dX8_init_50 (by decide) ?_
  refine q_rNZ (N' := 200) C hp h kaX8_init_Z (by decide) (by decide) (by decide) (Nat.le_of_ble_eq_true rfl) (Nat.le_of_ble_eq_true rfl) dX8_init_53 (fun q_16 S_17 H h hp => ?_)
  refine W.widen (k := 6) (n := 8120) (Nat.le_of_ble_eq_true rfl) (Nat.le_of_ble_eq_true rfl) ?_
  refine q_fP C hp h hnm tyX8 tyX8_ok nmX8 rfl iX8_init_X8 (by decide) kX8_init_25 rfl rfl rfl rfl rfl dX8_init_55 (fun S_18 H locs h hp => ?_)
  refine lv_aload_n hx hb dX8_init_58 rfl (q_at hl 0 rfl) ?_
  refine lv_sipush (v := 200) hx hb dX8_init_59 (by decide) ?_
  refine q_rNI (N' := 200) C hp h kaX8_init_I (by decide) (by decide) (by decide) (Nat.le_of_ble_eq_true rfl) (Nat.le_of_ble_eq_true rfl) dX8_init_62 (fun q_19 S_20 H h hp => ?_)
  refine W.widen (k := 7) (n := 8320) (Nat.le_of_ble_eq_true rfl) (Nat.le_of_ble_eq_true rfl) ?_
  refine q_fP C hp h hnm tyX8 tyX8_ok nmX8 rfl iX8_init_X8 (by decide) kX8_init_29 rfl rfl rfl rfl rfl dX8_init_64 (fun S_21 H locs h hp => ?_)
  refine lv_aload_n hx hb dX8_init_67 rfl (q_at hl 0 rfl) ?_
  refine lv_bipush (v := 6) hx hb dX8_init_68 (by decide) ?_
  refine q_rNI (N' := 6) C hp h kaX8_init_I (by decide) (by decide) (by decide) (Nat.le_of_ble_eq_true rfl) (Nat.le_of_ble_eq_true rfl) dX8_init_70 (fun q_22 S_23 H h hp => ?_)
  refine W.widen (k := 8) (n := 8326) (Nat.le_of_ble_eq_true rfl) (Nat.le_of_ble_eq_true rfl) ?_
  refine q_fP C hp h hnm tyX8 tyX8_ok nmX8 rfl iX8_init_X8 (by decide) kX8_init_32 rfl rfl rfl rfl rfl dX8_init_72 (fun S_24 H locs h hp => ?_)
  refine lv_aload_n hx hb dX8_init_75 rfl (q_at hl 0 rfl) ?_
  refine lv_bipush (v := 6) hx hb dX8_init_76 (by decide) ?_
  refine q_rNI (N' := 6) C hp h kaX8_init_I (by decide) (by decide) (by decide) (Nat.le_of_ble_eq_true rfl) (Nat.le_of_ble_eq_true rfl) dX8_init_78 (fun q_25 S_26 H h hp => ?_)
  refine W.widen (k := 9) (n := 8332) (Nat.le_of_ble_eq_true rfl) (Nat.le_of_ble_eq_true rfl) ?_
  refine q_fP C hp h hnm tyX8 tyX8_ok nmX8 rfl iX8_init_X8 (by decide) kX8_init_35 rfl rfl rfl rfl rfl dX8_init_80 (fun S_27 H locs h hp => ?_)
  refine lv_aload_n hx hb dX8_init_83 rfl (q_at hl 0 rfl) ?_
  refine lv_bipush (v := 8) hx hb dX8_init_84 (by decide) ?_
  refine q_rP C hp h tyX8 tyX8_ok nmX8 rfl iX8_init_X8 (by decide) kX8_init_38 rfl rfl rfl rfl dX8_init_86 (fun S_28 H locs h hp => ?_)
  refine lv_aload_n hx hb dX8_init_89 rfl (q_at hl 0 rfl) ?_
  refine lv_bipush (v := 7) hx hb dX8_init_90 (by decide) ?_
  refine q_rNZ (N' := 7) C hp h kaX8_init_Z (by decide) (by decide) (by decide) (Nat.le_of_ble_eq_true rfl) (Nat.le_of_ble_eq_true rfl) dX8_init_92 (fun q_29 S_30 H h hp => ?_)
  refine W.widen (k := 10) (n := 8339) (Nat.le_of_ble_eq_true rfl) (Nat.le_of_ble_eq_true rfl) ?_
  refine q_fP C hp h hnm tyX8 tyX8_ok nmX8 rfl iX8_init_X8 (by decide) kX8_init_42 rfl rfl rfl rfl rfl dX8_init_94 (fun S_31 H locs h hp => ?_)
  refine lv_aload_n hx hb dX8_init_97 rfl (q_at hl 0 rfl) ?_
  refine lv_bipush (v := 7) hx hb dX8_init_98 (by decide) ?_
  refine q_rNI (N' := 7) C hp h kaX8_init_I (by decide) (by decide) (by decide) (Nat.le_of_ble_eq_true rfl) (Nat.le_of_ble_eq_true rfl) dX8_init_100 (fun q_32 S_33 H h hp => ?_)
  refine W.widen (k := 11) (n := 8346) (Nat.le_of_ble_eq_true rfl) (Nat.le_of_ble_eq_true rfl) ?_
  refine q_fP C hp h hnm tyX8 tyX8_ok nmX8 rfl iX8_init_X8 (by decide) kX8_init_45 rfl rfl rfl rfl rfl dX8_init_102 (fun S_34 H locs h hp => ?_)
  refine lv_aload_n hx hb dX8_init_105 rfl (q_at hl 0 rfl) ?_
  refine lv_sipush (v := 280) hx hb dX8_init_106 (by decide) ?_
  refine q_rNI (N' := 280) C hp h kaX8_init_I (by decide) (by decide) (by decide) (Nat.le_of_ble_eq_true rfl) (Nat.le_of_ble_eq_true rfl) dX8_init_109 (fun q_35 S_36 H h hp => ?_)
  refine W.widen (k := 12) (n := 8626) (Nat.le_of_ble_eq_true rfl) (Nat.le_of_ble_eq_true rfl) ?_
  refine q_fP C hp h hnm tyX8 tyX8_ok nmX8 rfl iX8_init_X8 (by decide) kX8_init_48 rfl rfl rfl rfl rfl dX8_init_111 (fun S_37 H locs h hp => ?_)
  refine lv_aload_n hx hb dX8_init_114 rfl (q_at hl 0 rfl) ?_
  refine lv_sipush (v := 280) hx hb dX8_init_115 (by decide) ?_
  refine q_rNI (N' := 280) C hp h kaX8_init_I (by decide) (by decide) (by decide) (Nat.le_of_ble_eq_true rfl) (Nat.le_of_ble_eq_true rfl) dX8_init_118 (fun q_38 S_39 H h hp => ?_)
  refine W.widen (k := 13) (n := 8906) (Nat.le_of_ble_eq_true rfl) (Nat.le_of_ble_eq_true rfl) ?_
  refine q_fP C hp h hnm tyX8 tyX8_ok nmX8 rfl iX8_init_X8 (by decide) kX8_init_51 rfl rfl rfl rfl rfl dX8_init_120 (fun S_40 H locs h hp => ?_)
  refine lv_aload_n hx hb dX8_init_123 rfl (q_at hl 0 rfl) ?_
  refine lv_sipush (v := 280) hx hb dX8_init_124 (by decide) ?_
  refine q_rNI (N' := 280) C hp h kaX8_init_I (by decide) (by decide) (by decide) (Nat.le_of_ble_eq_true rfl) (Nat.le_of_ble_eq_true rfl) dX8_init_127 (fun q_41 S_42 H h hp => ?_)
  refine W.widen (k := 14) (n := 9186) (Nat.le_of_ble_eq_true rfl) (Nat.le_of_ble_eq_true rfl) ?_
  refine q_fP C hp h hnm tyX8 tyX8_ok nmX8 rfl iX8_init_X8 (by decide) kX8_init_54 rfl rfl rfl rfl rfl dX8_init_129 (fun S_43 H locs h hp => ?_)
  refine lv_aload_n hx hb dX8_init_132 rfl (q_at hl 0 rfl) ?_
  refine lv_sipush (v := 280) hx hb dX8_init_133 (by decide) ?_
  refine q_rNI (N' := 280) C hp h kaX8_init_I (by decide) (by decide) (by decide) (Nat.le_of_ble_eq_true rfl) (Nat.le_of_ble_eq_true rfl) dX8_init_136 (fun q_44 S_45 H h hp => ?_)
  refine W.widen (k := 15) (n := 9466) (Nat.le_of_ble_eq_true rfl) (Nat.le_of_ble_eq_true rfl) ?_
  refine q_fP C hp h hnm tyX8 tyX8_ok nmX8 rfl iX8_init_X8 (by decide) kX8_init_57 rfl rfl rfl rfl rfl dX8_init_138 (fun S_46 H locs h hp => ?_)
  refine lv_aload_n hx hb dX8_init_141 rfl (q_at hl 0 rfl) ?_
  refine lv_sipush (v := 280) hx hb dX8_init_142 (by decide) ?_
  refine q_rNI (N' := 280) C hp h kaX8_init_I (by decide) (by decide) (by decide) (Nat.le_of_ble_eq_true rfl) (Nat.le_of_ble_eq_true rfl) dX8_init_145 (fun q_47 S_48 H h hp => ?_)
  refine W.widen (k := 16) (n := 9746) (Nat.le_of_ble_eq_true rfl) (Nat.le_of_ble_eq_true rfl) ?_
  refine q_fP C hp h hnm tyX8 tyX8_ok nmX8 rfl iX8_init_X8 (by decide) kX8_init_60 rfl rfl rfl rfl rfl dX8_init_147 (fun S_49 H locs h hp => ?_)
  refine lv_aload_n hx hb dX8_init_150 rfl (q_at hl 0 rfl) ?_
  refine lv_sipush (v := 280) hx hb dX8_init_151 (by decide) ?_
  refine q_rNI (N' := 280) C hp h kaX8_init_I (by decide) (by decide) (by decide) (Nat.le_of_ble_eq_true rfl) (Nat.le_of_ble_eq_true rfl) dX8_init_154 (fun q_50 S_51 H h hp => ?_)
  refine W.widen (k := 17) (n := 10026) (Nat.le_of_ble_eq_true rfl) (Nat.le_of_ble_eq_true rfl) ?_
  refine q_fP C hp h hnm tyX8 tyX8_ok nmX8 rfl iX8_init_X8 (by decide) kX8_init_63 rfl rfl rfl rfl rfl dX8_init_156 (fun S_52 H locs h hp => ?_)
  refine lv_aload_n hx hb dX8_init_159 rfl (q_at hl 0 rfl) ?_
  refine lv_sipush (v := 280) hx hb dX8_init_160 (by decide) ?_
  refine q_rNI (N' := 280) C hp h kaX8_init_I (by decide) (by decide) (by decide) (Nat.le_of_ble_eq_true rfl) (Nat.le_of_ble_eq_true rfl) dX8_init_163 (fun q_53 S_54 H h hp => ?_)
  refine W.widen (k := 18) (n := 10306) (Nat.le_of_ble_eq_true rfl) (Nat.le_of_ble_eq_true rfl) ?_
  refine q_fP C hp h hnm tyX8 tyX8_ok nmX8 rfl iX8_init_X8 (by decide) kX8_init_66 rfl rfl rfl rfl rfl dX8_init_165 (fun S_55 H locs h hp => ?_)
  refine lv_aload_n hx hb dX8_init_168 rfl (q_at hl 0 rfl) ?_
  refine lv_sipush (v := 8960) hx hb dX8_init_169 (by decide) ?_
  refine q_rNI (N' := 8960) C hp h kaX8_init_I (by decide) (by decide) (by decide) (Nat.le_of_ble_eq_true rfl) (Nat.le_of_ble_eq_true rfl) dX8_init_172 (fun q_56 S_57 H h hp => ?_)
  refine W.widen (k := 19) (n := 19266) (Nat.le_of_ble_eq_true rfl) (Nat.le_of_ble_eq_true rfl) ?_
  refine q_fP C hp h hnm tyX8 tyX8_ok nmX8 rfl iX8_init_X8 (by decide) kX8_init_69 rfl rfl rfl rfl rfl dX8_init_174 (fun S_58 H locs h hp => ?_)
  refine lv_aload_n hx hb dX8_init_177 rfl (q_at hl 0 rfl) ?_
  refine lv_bipush (v := 24) hx hb dX8_init_178 (by decide) ?_
  refine q_rP C hp h tyX8 tyX8_ok nmX8 rfl iX8_init_X8 (by decide) kX8_init_72 rfl rfl rfl rfl dX8_init_180 (fun S_59 H locs h hp => ?_)
  refine lv_aload_n hx hb dX8_init_183 rfl (q_at hl 0 rfl) ?_
  refine lv_iconst (v := 4) hx hb dX8_init_184 (by decide) ?_
  refine q_rP C hp h tyX8 tyX8_ok nmX8 rfl iX8_init_X8 (by decide) kX8_init_75 rfl rfl rfl rfl dX8_init_185 (fun S_60 H locs h hp => ?_)
  refine lv_aload_n hx hb dX8_init_188 rfl (q_at hl 0 rfl) ?_
  refine lv_bipush (v := 41) hx hb dX8_init_189 (by decide) ?_
  refine q_rNI (N' := 41) C hp h kaX8_init_I (by decide) (by decide) (by decide) (Nat.le_of_ble_eq_true rfl) (Nat.le_of_ble_eq_true rfl) dX8_init_191 (fun q_61 S_62 H h hp => ?_)
  refine W.widen (k := 20) (n := 19307) (Nat.le_of_ble_eq_true rfl) (Nat.le_of_ble_eq_true rfl) ?_
  refine q_fP C hp h hnm tyX8 tyX8_ok nmX8 rfl iX8_init_X8 (by decide) kX8_init_78 rfl rfl rfl rfl rfl dX8_init_193 (fun S_63 H locs h hp => ?_)
  refine lv_aload_n hx hb dX8_init_196 rfl (q_at hl 0 rfl) ?_
  refine lv_bipush (v := 40) hx hb dX8_init_197 (by decide) ?_
  refine q_rNI (N' := 40) C hp h kaX8_init_I (by decide) (by decide) (by decide) (Nat.le_of_ble_eq_true rfl) (Nat.le_of_ble_eq_true rfl) dX8_init_199 (fun q_64 S_65 H h hp => ?_)
  refine W.widen (k := 21) (n := 19347) (Nat.le_of_ble_eq_true rfl) (Nat.le_of_ble_eq_true rfl) ?_
  refine q_fP C hp h hnm tyX8 tyX8_ok nmX8 rfl iX8_init_X8 (by decide) kX8_init_81 rfl rfl rfl rfl rfl dX8_init_201 (fun S_66 H locs h hp => ?_)
  refine lv_aload_n hx hb dX8_init_204 rfl (q_at hl 0 rfl) ?_
  refine lv_bipush (v := 40) hx hb dX8_init_205 (by decide) ?_
  refine q_rNI (N' := 40) C hp h kaX8_init_I (by decide) (by decide) (by decide) (Nat.le_of_ble_eq_true rfl) (Nat.le_of_ble_eq_true rfl) dX8_init_207 (fun q_67 S_68 H h hp => ?_)
  refine W.widen (k := 22) (n := 19387) (Nat.le_of_ble_eq_true rfl) (Nat.le_of_ble_eq_true rfl) ?_
  refine q_fP C hp h hnm tyX8 tyX8_ok nmX8 rfl iX8_init_X8 (by decide) kX8_init_84 rfl rfl rfl rfl rfl dX8_init_209 (fun S_69 H locs h hp => ?_)
  refine lv_aload_n hx hb dX8_init_212 rfl (q_at hl 0 rfl) ?_
  refine lv_bipush (v := 40) hx hb dX8_init_213 (by decide) ?_
  refine q_rNI (N' := 40) C hp h kaX8_init_I (by decide) (by decide) (by decide) (Nat.le_of_ble_eq_true rfl) (Nat.le_of_ble_eq_true rfl) dX8_init_215 (fun q_70 S_71 H h hp => ?_)
  refine W.widen (k := 23) (n := 19427) (Nat.le_of_ble_eq_true rfl) (Nat.le_of_ble_eq_true rfl) ?_
  refine q_fP C hp h hnm tyX8 tyX8_ok nmX8 rfl iX8_init_X8 (by decide) kX8_init_87 rfl rfl rfl rfl rfl dX8_init_217 (fun S_72 H locs h hp => ?_)
  refine lv_aload_n hx hb dX8_init_220 rfl (q_at hl 0 rfl) ?_
  refine lv_bipush (v := 40) hx hb dX8_init_221 (by decide) ?_
  refine q_rNZ (N' := 40) C hp h kaX8_init_Z (by decide) (by decide) (by decide) (Nat.le_of_ble_eq_true rfl) (Nat.le_of_ble_eq_true rfl) dX8_init_223 (fun q_73 S_74 H h hp => ?_)
  refine W.widen (k := 24) (n := 19467) (Nat.le_of_ble_eq_true rfl) (Nat.le_of_ble_eq_true rfl) ?_
  refine q_fP C hp h hnm tyX8 tyX8_ok nmX8 rfl iX8_init_X8 (by decide) kX8_init_90 rfl rfl rfl rfl rfl dX8_init_225 (fun S_75 H locs h hp => ?_)
  refine lv_aload_n hx hb dX8_init_228 rfl (q_at hl 0 rfl) ?_
  refine lv_bipush (v := 40) hx hb dX8_init_229 (by decide) ?_
  refine q_rNI (N' := 40) C hp h kaX8_init_I (by decide) (by decide) (by decide) (Nat.le_of_ble_eq_true rfl) (Nat.le_of_ble_eq_true rfl) dX8_init_231 (fun q_76 S_77 H h hp => ?_)
  refine W.widen (k := 25) (n := 19507) (Nat.le_of_ble_eq_true rfl) (Nat.le_of_ble_eq_true rfl) ?_
  refine q_fP C hp h hnm tyX8 tyX8_ok nmX8 rfl iX8_init_X8 (by decide) kX8_init_93 rfl rfl rfl rfl rfl dX8_init_233 (fun S_78 H locs h hp => ?_)
  refine lv_aload_n hx hb dX8_init_236 rfl (q_at hl 0 rfl) ?_
  refine lv_bipush (v := 40) hx hb dX8_init_237 (by decide) ?_
  refine q_rNI (N' := 40) C hp h kaX8_init_I (by decide) (by decide) (by decide) (Nat.le_of_ble_eq_true rfl) (Nat.le_of_ble_eq_true rfl) dX8_init_239 (fun q_79 S_80 H h hp => ?_)
  refine W.widen (k := 26) (n := 19547) (Nat.le_of_ble_eq_true rfl) (Nat.le_of_ble_eq_true rfl) ?_
  refine q_fP C hp h hnm tyX8 tyX8_ok nmX8 rfl iX8_init_X8 (by decide) kX8_init_96 rfl rfl rfl rfl rfl dX8_init_241 (fun S_81 H locs h hp => ?_)
  refine lv_aload_n hx hb dX8_init_244 rfl (q_at hl 0 rfl) ?_
  refine lv_bipush (v := 40) hx hb dX8_init_245 (by decide) ?_
  refine q_rNI (N' := 40) C hp h kaX8_init_I (by decide) (by decide) (by decide) (Nat.le_of_ble_eq_true rfl) (Nat.le_of_ble_eq_true rfl) dX8_init_247 (fun q_82 S_83 H h hp => ?_)
  refine W.widen (k := 27) (n := 19587) (Nat.le_of_ble_eq_true rfl) (Nat.le_of_ble_eq_true rfl) ?_
  refine q_fP C hp h hnm tyX8 tyX8_ok nmX8 rfl iX8_init_X8 (by decide) kX8_init_99 rfl rfl rfl rfl rfl dX8_init_249 (fun S_84 H locs h hp => ?_)
  refine lv_aload_n hx hb dX8_init_252 rfl (q_at hl 0 rfl) ?_
  refine lv_bipush (v := 40) hx hb dX8_init_253 (by decide) ?_
  refine q_rNZ (N' := 40) C hp h kaX8_init_Z (by decide) (by decide) (by decide) (Nat.le_of_ble_eq_true rfl) (Nat.le_of_ble_eq_true rfl) dX8_init_255 (fun q_85 S_86 H h hp => ?_)
  refine W.widen (k := 28) (n := 19627) (Nat.le_of_ble_eq_true rfl) (Nat.le_of_ble_eq_true rfl) ?_
  refine q_fP C hp h hnm tyX8 tyX8_ok nmX8 rfl iX8_init_X8 (by decide) kX8_init_102 rfl rfl rfl rfl rfl dX8_init_257 (fun S_87 H locs h hp => ?_)
  refine W.widen (k := rmX8_init.cells) (n := rmX8_init.slots) (Nat.le_of_ble_eq_true rfl) (Nat.le_of_ble_eq_true rfl) ?_
  exact q_vret C hp hr h dX8_init_260

set_option maxHeartbeats 4000000 in
set_option maxRecDepth 100000 in
theorem RX8_in (l : Launch) (D : va_G) (g : q_A) (S : q_S) (x0 : Int32) (x1 : Int32) (x2 : Int32) (Q : Int32 → q_S → Prop) (h : wX8_in x0 x1 x2 Q S) : q_Mi l yX8_in wsX8_in rmX8_in D g [.int x0, .int x1, .int x2] S Q := by
  refine q_Mi.of (cc := cX8_in) (nL := 3) (rt := .boolean) (by decide +kernel) rfl (Nat.le_of_ble_eq_true rfl) rfl ?_
  intro p e s m args below meth c ls A C hr hnm hp hl
  have C : q_X p s m args meth c cX8_in 3 RX8 wsX8_in D g A := C
  have hx := C.1
  have hb := C.2.1
  have hl : q_l ls 3 [(0, .int x0), (1, .int x1), (2, .int x2)] := hl
  unfold wX8_in at h
  refine lv_iload_n hx hb dX8_in_0 rfl (q_at hl 0 rfl) ?_
  refine lv_iload_n hx hb dX8_in_1 rfl (q_at hl 1 rfl) ?_
  refine lv_icmp_lt (tgt := 14) hx hb dX8_in_2 (by decide) (fun c_1 => ?_) (fun c_1 => ?_)
  · replace h := h.1 c_1
    refine lv_iconst (v := 0) hx hb dX8_in_14 (by decide) ?_
    exact q_zret C hp hr h dX8_in_15
  · replace h := h.2 c_1
    refine lv_iload_n hx hb dX8_in_5 rfl (q_at hl 0 rfl) ?_
    refine lv_iload_n hx hb dX8_in_6 rfl (q_at hl 2 rfl) ?_
    refine lv_icmp_gt (tgt := 14) hx hb dX8_in_7 (by decide) (fun c_2 => ?_) (fun c_2 => ?_)
    · replace h := h.1 c_2
      refine lv_iconst (v := 0) hx hb dX8_in_14 (by decide) ?_
      exact q_zret C hp hr h dX8_in_15
    · replace h := h.2 c_2
      refine lv_iconst (v := 1) hx hb dX8_in_10 (by decide) ?_
      refine lv_goto (tgt := 15) hx hb dX8_in_11 (by decide) ?_
      exact q_zret C hp hr h dX8_in_15
theorem kX8_isVoice_105 : Cond.fieldLink RX8 105 (TX8 0).1 (TX8 0).2.1 (TX8 0).2.2.1 ∈ wsX8_isVoice := by decide +kernel
theorem iX8_isVoice_X8 : ∀ w ∈ u_ws RX8 TX8 36, w ∈ wsX8_isVoice := by decide +kernel
set_option maxHeartbeats 4000000 in
set_option maxRecDepth 100000 in
theorem RX8_isVoice (l : Launch) (D : va_G) (g : q_A) (S : q_S) (a0 : Nat) (x1 : Int32) (Q : Int32 → q_S → Prop) (h : wX8_isVoice a0 x1 Q S) : q_Mi l yX8_isVoice wsX8_isVoice rmX8_isVoice D g [.ref a0, .int x1] S Q := by
  refine q_Mi.of (cc := cX8_isVoice) (nL := 2) (rt := .boolean) (by decide +kernel) rfl (Nat.le_of_ble_eq_true rfl) rfl ?_
  intro p e s m args below meth c ls A C hr hnm hp hl
  have C : q_X p s m args meth c cX8_isVoice 2 RX8 wsX8_isVoice D g A := C
  have hx := C.1
  have hb := C.2.1
  have hl : q_l ls 2 [(0, .ref a0), (1, .int x1)] := hl
  unfold wX8_isVoice at h
  replace h := h.2
  refine lv_iload_n hx hb dX8_isVoice_0 rfl (q_at hl 1 rfl) ?_
  refine lv_iconst (v := 0) hx hb dX8_isVoice_1 (by decide) ?_
  refine lv_aload_n hx hb dX8_isVoice_2 rfl (q_at hl 0 rfl) ?_
  refine q_rGI C hp h rfl iX8_isVoice_X8 (by decide) kX8_isVoice_105 dX8_isVoice_3 (fun v_1 h => ?_)
  refine lv_iconst (v := 1) hx hb dX8_isVoice_6 (by decide) ?_
  refine lv_isub hx hb dX8_isVoice_7 ?_
  refine q_finI0 C hp (q_runS (As := [.int x1, .int (0 : Int32), .int (v_1 - (1 : Int32))]) (rest := []) C hp (RX8_in l D g _ x1 (0 : Int32) (v_1 - (1 : Int32)) _ h _) (va_cwS 3 C.2.2.2.2.1 gX8_isVoice_X8_in rfl rfl rfl (by decide +kernel) ⟨(Nat.le_of_ble_eq_true rfl), (Nat.le_of_ble_eq_true rfl)⟩) rfl hl.1.1 rfl (Nat.le_of_ble_eq_true rfl) dX8_isVoice_8 ⟨(Nat.le_of_ble_eq_true rfl), (Nat.le_of_ble_eq_true rfl)⟩) rfl rfl (fun v_3 S_2 H locs h hp => ?_)
  exact q_zret C hp hr h dX8_isVoice_11
theorem kX8_isBar_112 : Cond.fieldLink RX8 112 (TX8 1).1 (TX8 1).2.1 (TX8 1).2.2.1 ∈ wsX8_isBar := by decide +kernel
theorem iX8_isBar_X8 : ∀ w ∈ u_ws RX8 TX8 36, w ∈ wsX8_isBar := by decide +kernel
set_option maxHeartbeats 4000000 in
set_option maxRecDepth 100000 in
theorem RX8_isBar (l : Launch) (D : va_G) (g : q_A) (S : q_S) (a0 : Nat) (x1 : Int32) (Q : Int32 → q_S → Prop) (h : wX8_isBar a0 x1 Q S) : q_Mi l yX8_isBar wsX8_isBar rmX8_isBar D g [.ref a0, .int x1] S Q := by
  refine q_Mi.of (cc := cX8_isBar) (nL := 2) (rt := .boolean) (by decide +kernel) rfl (Nat.le_of_ble_eq_true rfl) rfl ?_
  intro p e s m args below meth c ls A C hr hnm hp hl
  have C : q_X p s m args meth c cX8_isBar 2 RX8 wsX8_isBar D g A := C
  have hx := C.1
  have hb := C.2.1
  have hl : q_l ls 2 [(0, .ref a0), (1, .int x1)] := hl
  unfold wX8_isBar at h
  replace h := h.2
  refine lv_iload_n hx hb dX8_isBar_0 rfl (q_at hl 1 rfl) ?_
  refine lv_iconst (v := 0) hx hb dX8_isBar_1 (by decide) ?_
  refine lv_aload_n hx hb dX8_isBar_2 rfl (q_at hl 0 rfl) ?_
  refine q_rGI C hp h rfl iX8_isBar_X8 (by decide) kX8_isBar_112 dX8_isBar_3 (fun v_1 h => ?_)
  refine lv_iconst (v := 1) hx hb dX8_isBar_6 (by decide) ?_
  refine lv_isub hx hb dX8_isBar_7 ?_
  refine q_finI0 C hp (q_runS (As := [.int x1, .int (0 : Int32), .int (v_1 - (1 : Int32))]) (rest := []) C hp (RX8_in l D g _ x1 (0 : Int32) (v_1 - (1 : Int32)) _ h _) (va_cwS 3 C.2.2.2.2.1 gX8_isBar_X8_in rfl rfl rfl (by decide +kernel) ⟨(Nat.le_of_ble_eq_true rfl), (Nat.le_of_ble_eq_true rfl)⟩) rfl hl.1.1 rfl (Nat.le_of_ble_eq_true rfl) dX8_isBar_8 ⟨(Nat.le_of_ble_eq_true rfl), (Nat.le_of_ble_eq_true rfl)⟩) rfl rfl (fun v_3 S_2 H locs h hp => ?_)
  exact q_zret C hp hr h dX8_isBar_11
theorem kX8_voice_105 : Cond.fieldLink RX8 105 (TX8 0).1 (TX8 0).2.1 (TX8 0).2.2.1 ∈ wsX8_voice := by decide +kernel
theorem iX8_voice_X8 : ∀ w ∈ u_ws RX8 TX8 36, w ∈ wsX8_voice := by decide +kernel
set_option maxHeartbeats 4000000 in
set_option maxRecDepth 100000 in
theorem RX8_voice (l : Launch) (D : va_G) (g : q_A) (S : q_S) (a0 : Nat) (Q : Int32 → q_S → Prop) (h : wX8_voice a0 Q S) : q_Mi l yX8_voice wsX8_voice rmX8_voice D g [.ref a0] S Q := by
  refine q_Mi.of (cc := cX8_voice) (nL := 1) (rt := .int) (by decide +kernel) rfl (Nat.le_of_ble_eq_true rfl) rfl ?_
  intro p e s m args below meth c ls A C hr hnm hp hl
  have C : q_X p s m args meth c cX8_voice 1 RX8 wsX8_voice D g A := C
  have hx := C.1
  have hb := C.2.1
  have hl : q_l ls 1 [(0, .ref a0)] := hl
  unfold wX8_voice at h
  replace h := h.2
  refine lv_aload_n hx hb dX8_voice_0 rfl (q_at hl 0 rfl) ?_
  refine q_rGI C hp h rfl iX8_voice_X8 (by decide) kX8_voice_105 dX8_voice_1 (fun v_1 h => ?_)
  refine lv_bipush (v := 6) hx hb dX8_voice_4 (by decide) ?_
  refine lv_icmp_ne (tgt := 12) hx hb dX8_voice_6 (by decide) (fun c_2 => ?_) (fun c_2 => ?_)
  · replace h := h.1 c_2
    refine lv_aload_n hx hb dX8_voice_12 rfl (q_at hl 0 rfl) ?_
    refine lv_dup hx hb dX8_voice_13 rfl ?_
    refine q_rGI C hp h rfl iX8_voice_X8 (by decide) kX8_voice_105 dX8_voice_14 (fun v_3 h => ?_)
    refine lv_iconst (v := 1) hx hb dX8_voice_17 (by decide) ?_
    refine lv_iadd hx hb dX8_voice_18 ?_
    refine q_rP C hp h tyX8 tyX8_ok nmX8 rfl iX8_voice_X8 (by decide) kX8_voice_105 rfl rfl rfl rfl dX8_voice_19 (fun S_4 H locs h hp => ?_)
    refine lv_aload_n hx hb dX8_voice_22 rfl (q_at hl 0 rfl) ?_
    refine q_rGI C hp h rfl iX8_voice_X8 (by decide) kX8_voice_105 dX8_voice_23 (fun v_5 h => ?_)
    refine lv_iconst (v := 1) hx hb dX8_voice_26 (by decide) ?_
    refine lv_isub hx hb dX8_voice_27 ?_
    exact q_iret C hp hr h dX8_voice_28
  · replace h := h.2 c_2
    refine lv_bipush (v := (-104)) hx hb dX8_voice_9 (by decide) ?_
    exact q_iret C hp hr h dX8_voice_11
theorem kX8_bars_7 : Cond.fieldLink RX8 7 (TX8 2).1 (TX8 2).2.1 (TX8 2).2.2.1 ∈ wsX8_bars := by decide +kernel
theorem kX8_bars_25 : Cond.fieldLink RX8 25 (TX8 7).1 (TX8 7).2.1 (TX8 7).2.2.1 ∈ wsX8_bars := by decide +kernel
theorem kX8_bars_112 : Cond.fieldLink RX8 112 (TX8 1).1 (TX8 1).2.1 (TX8 1).2.2.1 ∈ wsX8_bars := by decide +kernel
theorem iX8_bars_X8 : ∀ w ∈ u_ws RX8 TX8 36, w ∈ wsX8_bars := by decide +kernel
set_option maxHeartbeats 4000000 in
set_option maxRecDepth 100000 in
theorem RX8_bars (l : Launch) (D : va_G) (g : q_A) (S : q_S) (a0 : Nat) (x1 : Int32) (Q : Int32 → q_S → Prop) (h : wX8_bars a0 x1 Q S) : q_Mi l yX8_bars wsX8_bars rmX8_bars D g [.ref a0, .int x1] S Q := by
  refine q_Mi.of (cc := cX8_bars) (nL := 4) (rt := .int) (by decide +kernel) rfl (Nat.le_of_ble_eq_true rfl) rfl ?_
  intro p e s m args below meth c ls A C hr hnm hp hl
  have C : q_X p s m args meth c cX8_bars 4 RX8 wsX8_bars D g A := C
  have hx := C.1
  have hb := C.2.1
  have hl : q_l ls 4 [(0, .ref a0), (1, .int x1)] := hl
  have j51 : ∀ (k15 : Nat → Int32 → Int32 → q_S → Prop) (ih15 : ∀ (a0 : Nat) (x1 : Int32) (x2 : Int32) (S : q_S) (H : Heap) (locs : List Loc) (ls : Array Slot), k15 a0 x1 x2 S → q_P D g A s.heap S H locs → q_l ls 4 [(0, .ref a0), (1, .int x1), (2, .int x2)] → W p l e rmX8_bars s m args below meth c H locs 0 0 (MQ below (va_Qi Q (q_B D g A) A) args s rmX8_bars.cells rmX8_bars.slots A) (F0 m 15 ls [])) (n : Nat), ∀ (a0 : Nat) (x1 : Int32) (x2 : Int32) (x3 : Int32) (S : q_S) (H : Heap) (locs : List Loc) (ls : Array Slot), lX8_bars_b51 Q k15 n a0 x1 x2 x3 S → q_P D g A s.heap S H locs → q_l ls 4 [(0, .ref a0), (1, .int x1), (2, .int x2), (3, .int x3)] → W p l e rmX8_bars s m args below meth c H locs 0 0 (MQ below (va_Qi Q (q_B D g A) A) args s rmX8_bars.cells rmX8_bars.slots A) (F0 m 51 ls []) := by
    intro k15 ih15
    intro n
    induction n with
    | zero => intro a0 x1 x2 x3 S H locs ls h; exact absurd h (fun h => h)
    | succ n ih51 =>
      intro a0 x1 x2 x3 S H locs ls h hp hl
      have h : wX8_bars_b51 Q k15 (lX8_bars_b51 Q k15 n) a0 x1 x2 x3 S := h
      unfold wX8_bars_b51 at h
      refine lv_iload_n hx hb dX8_bars_51 rfl (q_at hl 3 rfl) ?_
      refine lv_iconst (v := 5) hx hb dX8_bars_52 (by decide) ?_
      refine lv_icmp_ge (tgt := 73) hx hb dX8_bars_53 (by decide) (fun c_1 => ?_) (fun c_1 => ?_)
      · replace h := h.1 c_1
        refine q_inc (x := x2) (v := (x2 + (1 : Int32))) (lv' := [(2, .int (x2 + (1 : Int32))), (0, .ref a0), (1, .int x1), (3, .int x3)]) hx hb dX8_bars_73 hl (k := 2) rfl rfl (by decide) rfl (fun ls hl => ?_)
        refine lv_goto (tgt := 15) hx hb dX8_bars_76 (by decide) ?_
        exact ih15 a0 x1 (x2 + (1 : Int32)) _ _ _ _ h hp (q_sub hl [1, 2, 0] rfl)
      · replace h := h.2 c_1
        refine lv_aload_n hx hb dX8_bars_56 rfl (q_at hl 0 rfl) ?_
        refine q_rGR C hp h rfl iX8_bars_X8 (by decide) kX8_bars_25 dX8_bars_57 (fun r_2 h => ?_)
        refine lv_iconst (v := 5) hx hb dX8_bars_60 (by decide) ?_
        refine lv_iload_n hx hb dX8_bars_61 rfl (q_at hl 2 rfl) ?_
        refine lv_imul hx hb dX8_bars_62 ?_
        refine lv_iload_n hx hb dX8_bars_63 rfl (q_at hl 3 rfl) ?_
        refine lv_iadd hx hb dX8_bars_64 ?_
        refine lv_iconst (v := 0) hx hb dX8_bars_65 (by decide) ?_
        refine q_rSZ C hp h dX8_bars_66 (fun S_3 H locs h hp => ?_)
        refine q_inc (x := x3) (v := (x3 + (1 : Int32))) (lv' := [(3, .int (x3 + (1 : Int32))), (0, .ref a0), (1, .int x1), (2, .int x2)]) hx hb dX8_bars_67 hl (k := 3) rfl rfl (by decide) rfl (fun ls hl => ?_)
        refine lv_goto (tgt := 51) hx hb dX8_bars_70 (by decide) ?_
        exact ih51 a0 x1 x2 (x3 + (1 : Int32)) _ _ _ _ h hp (q_sub hl [1, 2, 3, 0] rfl)
  have j25 : ∀ (k15 : Nat → Int32 → Int32 → q_S → Prop) (ih15 : ∀ (a0 : Nat) (x1 : Int32) (x2 : Int32) (S : q_S) (H : Heap) (locs : List Loc) (ls : Array Slot), k15 a0 x1 x2 S → q_P D g A s.heap S H locs → q_l ls 4 [(0, .ref a0), (1, .int x1), (2, .int x2)] → W p l e rmX8_bars s m args below meth c H locs 0 0 (MQ below (va_Qi Q (q_B D g A) A) args s rmX8_bars.cells rmX8_bars.slots A) (F0 m 15 ls [])) (n : Nat), ∀ (a0 : Nat) (x1 : Int32) (x2 : Int32) (x3 : Int32) (S : q_S) (H : Heap) (locs : List Loc) (ls : Array Slot), lX8_bars_b25 Q k15 n a0 x1 x2 x3 S → q_P D g A s.heap S H locs → q_l ls 4 [(0, .ref a0), (1, .int x1), (2, .int x2), (3, .int x3)] → W p l e rmX8_bars s m args below meth c H locs 0 0 (MQ below (va_Qi Q (q_B D g A) A) args s rmX8_bars.cells rmX8_bars.slots A) (F0 m 25 ls []) := by
    intro k15 ih15
    intro n
    induction n with
    | zero => intro a0 x1 x2 x3 S H locs ls h; exact absurd h (fun h => h)
    | succ n ih25 =>
      intro a0 x1 x2 x3 S H locs ls h hp hl
      have h : wX8_bars_b25 Q k15 (lX8_bars_b25 Q k15 n) a0 x1 x2 x3 S := h
      unfold wX8_bars_b25 at h
      refine lv_iload_n hx hb dX8_bars_25 rfl (q_at hl 3 rfl) ?_
      refine lv_bipush (v := 6) hx hb dX8_bars_26 (by decide) ?_
      refine lv_icmp_ge (tgt := 49) hx hb dX8_bars_28 (by decide) (fun c_4 => ?_) (fun c_4 => ?_)
      · replace h := h.1 c_4
        refine lv_iconst (v := 0) hx hb dX8_bars_49 (by decide) ?_
        refine q_istn (lv' := [(3, .int (0 : Int32)), (0, .ref a0), (1, .int x1), (2, .int x2)]) hx hb dX8_bars_50 rfl hl (by decide) rfl (fun ls hl => ?_)
        exact j51 k15 ih15 q_fuel a0 x1 x2 (0 : Int32) _ _ _ _ h hp (q_sub hl [1, 2, 3, 0] rfl)
      · replace h := h.2 c_4
        refine lv_aload_n hx hb dX8_bars_31 rfl (q_at hl 0 rfl) ?_
        refine q_rGR C hp h rfl iX8_bars_X8 (by decide) kX8_bars_7 dX8_bars_32 (fun r_5 h => ?_)
        refine lv_bipush (v := 40) hx hb dX8_bars_35 (by decide) ?_
        refine lv_iload_n hx hb dX8_bars_37 rfl (q_at hl 3 rfl) ?_
        refine lv_imul hx hb dX8_bars_38 ?_
        refine lv_iload_n hx hb dX8_bars_39 rfl (q_at hl 2 rfl) ?_
        refine lv_iadd hx hb dX8_bars_40 ?_
        refine lv_iconst (v := 0) hx hb dX8_bars_41 (by decide) ?_
        refine q_rSI C hp h dX8_bars_42 (fun S_6 H locs h hp => ?_)
        refine q_inc (x := x3) (v := (x3 + (1 : Int32))) (lv' := [(3, .int (x3 + (1 : Int32))), (0, .ref a0), (1, .int x1), (2, .int x2)]) hx hb dX8_bars_43 hl (k := 3) rfl rfl (by decide) rfl (fun ls hl => ?_)
        refine lv_goto (tgt := 25) hx hb dX8_bars_46 (by decide) ?_
        exact ih25 a0 x1 x2 (x3 + (1 : Int32)) _ _ _ _ h hp (q_sub hl [1, 2, 3, 0] rfl)
  have j15 : ∀ (n : Nat), ∀ (a0 : Nat) (x1 : Int32) (x2 : Int32) (S : q_S) (H : Heap) (locs : List Loc) (ls : Array Slot), lX8_bars_b15 Q n a0 x1 x2 S → q_P D g A s.heap S H locs → q_l ls 4 [(0, .ref a0), (1, .int x1), (2, .int x2)] → W p l e rmX8_bars s m args below meth c H locs 0 0 (MQ below (va_Qi Q (q_B D g A) A) args s rmX8_bars.cells rmX8_bars.slots A) (F0 m 15 ls []) := by
    intro n
    induction n with
    | zero => intro a0 x1 x2 S H locs ls h; exact absurd h (fun h => h)
    | succ n ih15 =>
      intro a0 x1 x2 S H locs ls h hp hl
      have h : wX8_bars_b15 Q (lX8_bars_b15 Q n) a0 x1 x2 S := h
      unfold wX8_bars_b15 at h
      refine lv_iload_n hx hb dX8_bars_15 rfl (q_at hl 2 rfl) ?_
      refine lv_aload_n hx hb dX8_bars_16 rfl (q_at hl 0 rfl) ?_
      refine q_rGI C hp h rfl iX8_bars_X8 (by decide) kX8_bars_112 dX8_bars_17 (fun v_7 h => ?_)
      refine lv_icmp_ge (tgt := 79) hx hb dX8_bars_20 (by decide) (fun c_8 => ?_) (fun c_8 => ?_)
      · replace h := h.1 c_8
        refine lv_aload_n hx hb dX8_bars_79 rfl (q_at hl 0 rfl) ?_
        refine q_rGI C hp h rfl iX8_bars_X8 (by decide) kX8_bars_112 dX8_bars_80 (fun v_9 h => ?_)
        refine q_istn (lv' := [(2, .int v_9), (0, .ref a0), (1, .int x1)]) hx hb dX8_bars_83 rfl hl (by decide) rfl (fun ls hl => ?_)
        refine lv_aload_n hx hb dX8_bars_84 rfl (q_at hl 1 rfl) ?_
        refine lv_iload_n hx hb dX8_bars_85 rfl (q_at hl 2 rfl) ?_
        refine q_rP C hp h tyX8 tyX8_ok nmX8 rfl iX8_bars_X8 (by decide) kX8_bars_112 rfl rfl rfl rfl dX8_bars_86 (fun S_10 H locs h hp => ?_)
        refine lv_iload_n hx hb dX8_bars_89 rfl (q_at hl 0 rfl) ?_
        exact q_iret C hp hr h dX8_bars_90
      · replace h := h.2 c_8
        refine lv_iconst (v := 0) hx hb dX8_bars_23 (by decide) ?_
        refine q_istn (lv' := [(3, .int (0 : Int32)), (0, .ref a0), (1, .int x1), (2, .int x2)]) hx hb dX8_bars_24 rfl hl (by decide) rfl (fun ls hl => ?_)
        exact j25 (lX8_bars_b15 Q n) ih15 q_fuel a0 x1 x2 (0 : Int32) _ _ _ _ h hp (q_sub hl [1, 2, 3, 0] rfl)
  unfold wX8_bars at h
  replace h := h.2
  refine lv_iload_n hx hb dX8_bars_0 rfl (q_at hl 1 rfl) ?_
  refine lv_iconst (v := 0) hx hb dX8_bars_1 (by decide) ?_
  refine lv_bipush (v := 40) hx hb dX8_bars_2 (by decide) ?_
  refine q_finI0 C hp (q_runS (As := [.int x1, .int (0 : Int32), .int (40 : Int32)]) (rest := []) C hp (RX8_in l D g _ x1 (0 : Int32) (40 : Int32) _ h _) (va_cwS 3 C.2.2.2.2.1 gX8_bars_X8_in rfl rfl rfl (by decide +kernel) ⟨(Nat.le_of_ble_eq_true rfl), (Nat.le_of_ble_eq_true rfl)⟩) rfl hl.1.1 rfl (Nat.le_of_ble_eq_true rfl) dX8_bars_4 ⟨(Nat.le_of_ble_eq_true rfl), (Nat.le_of_ble_eq_true rfl)⟩) rfl rfl (fun v_12 S_11 H locs h hp => ?_)
  refine lv_if_ne (tgt := 13) hx hb dX8_bars_7 (by decide) (fun c_13 => ?_) (fun c_13 => ?_)
  · replace h := h.1 c_13
    refine lv_iload_n hx hb dX8_bars_13 rfl (q_at hl 1 rfl) ?_
    refine q_istn (lv' := [(2, .int x1), (0, .ref a0), (1, .int x1)]) hx hb dX8_bars_14 rfl hl (by decide) rfl (fun ls hl => ?_)
    exact j15 q_fuel a0 x1 x1 _ _ _ _ h hp (q_sub hl [1, 2, 0] rfl)
  · replace h := h.2 c_13
    refine lv_bipush (v := (-102)) hx hb dX8_bars_10 (by decide) ?_
    exact q_iret C hp hr h dX8_bars_12

set_option maxHeartbeats 4000000 in
set_option maxRecDepth 100000 in
theorem RX8_floorMod (l : Launch) (D : va_G) (g : q_A) (S : q_S) (x0 : Int32) (x1 : Int32) (Q : Int32 → q_S → Prop) (h : wX8_floorMod x0 x1 Q S) : q_Mi l yX8_floorMod wsX8_floorMod rmX8_floorMod D g [.int x0, .int x1] S Q := by
  refine q_Mi.of (cc := cX8_floorMod) (nL := 3) (rt := .int) (by decide +kernel) rfl (Nat.le_of_ble_eq_true rfl) rfl ?_
  intro p e s m args below meth c ls A C hr hnm hp hl
  have C : q_X p s m args meth c cX8_floorMod 3 RX8 wsX8_floorMod D g A := C
  have hx := C.1
  have hb := C.2.1
  have hl : q_l ls 3 [(0, .int x0), (1, .int x1)] := hl
  unfold wX8_floorMod at h
  refine lv_iload_n hx hb dX8_floorMod_0 rfl (q_at hl 0 rfl) ?_
  refine lv_iload_n hx hb dX8_floorMod_1 rfl (q_at hl 1 rfl) ?_
  refine lv_irem hx hb dX8_floorMod_2 h.1 ?_
  replace h := h.2
  refine q_istn (lv' := [(2, .int (x0 - x0 / x1 * x1)), (0, .int x0), (1, .int x1)]) hx hb dX8_floorMod_3 rfl hl (by decide) rfl (fun ls hl => ?_)
  refine lv_iload_n hx hb dX8_floorMod_4 rfl (q_at hl 0 rfl) ?_
  refine lv_if_ge (tgt := 14) hx hb dX8_floorMod_5 (by decide) (fun c_1 => ?_) (fun c_1 => ?_)
  · replace h := h.1 c_1
    refine lv_iload_n hx hb dX8_floorMod_14 rfl (q_at hl 0 rfl) ?_
    exact q_iret C hp hr h dX8_floorMod_15
  · replace h := h.2 c_1
    refine lv_iload_n hx hb dX8_floorMod_8 rfl (q_at hl 0 rfl) ?_
    refine lv_iload_n hx hb dX8_floorMod_9 rfl (q_at hl 2 rfl) ?_
    refine lv_iadd hx hb dX8_floorMod_10 ?_
    refine lv_goto (tgt := 15) hx hb dX8_floorMod_11 (by decide) ?_
    exact q_iret C hp hr h dX8_floorMod_15
theorem kX8_note_7 : Cond.fieldLink RX8 7 (TX8 2).1 (TX8 2).2.1 (TX8 2).2.2.1 ∈ wsX8_note := by decide +kernel
theorem kX8_note_13 : Cond.fieldLink RX8 13 (TX8 3).1 (TX8 3).2.1 (TX8 3).2.2.1 ∈ wsX8_note := by decide +kernel
theorem kX8_note_16 : Cond.fieldLink RX8 16 (TX8 4).1 (TX8 4).2.1 (TX8 4).2.2.1 ∈ wsX8_note := by decide +kernel
theorem kX8_note_19 : Cond.fieldLink RX8 19 (TX8 5).1 (TX8 5).2.1 (TX8 5).2.2.1 ∈ wsX8_note := by decide +kernel
theorem kX8_note_22 : Cond.fieldLink RX8 22 (TX8 6).1 (TX8 6).2.1 (TX8 6).2.2.1 ∈ wsX8_note := by decide +kernel
theorem iX8_note_X8 : ∀ w ∈ u_ws RX8 TX8 36, w ∈ wsX8_note := by decide +kernel
set_option maxHeartbeats 4000000 in
set_option maxRecDepth 100000 in
theorem RX8_note (l : Launch) (D : va_G) (g : q_A) (S : q_S) (a0 : Nat) (x1 : Int32) (x2 : Int32) (x3 : Int32) (x4 : Int32) (x5 : Int32) (x6 : Int32) (Q : Int32 → q_S → Prop) (h : wX8_note a0 x1 x2 x3 x4 x5 x6 Q S) : q_Mi l yX8_note wsX8_note rmX8_note D g [.ref a0, .int x1, .int x2, .int x3, .int x4, .int x5, .int x6] S Q := by
  refine q_Mi.of (cc := cX8_note) (nL := 9) (rt := .int) (by decide +kernel) rfl (Nat.le_of_ble_eq_true rfl) rfl ?_
  intro p e s m args below meth c ls A C hr hnm hp hl
  have C : q_X p s m args meth c cX8_note 9 RX8 wsX8_note D g A := C
  have hx := C.1
  have hb := C.2.1
  have hl : q_l ls 9 [(0, .ref a0), (1, .int x1), (2, .int x2), (3, .int x3), (4, .int x4), (5, .int x5), (6, .int x6)] := hl
  have j303 : ∀ (a0 : Nat) (x3 : Int32) (x4 : Int32) (x5 : Int32) (x6 : Int32) (x7 : Int32) (x8 : Int32) (S : q_S) (H : Heap) (locs : List Loc) (ls : Array Slot), wX8_note_b303 Q a0 x3 x4 x5 x6 x7 x8 S → q_P D g A s.heap S H locs → q_l ls 9 [(0, .ref a0), (3, .int x3), (4, .int x4), (5, .int x5), (6, .int x6), (7, .int x7), (8, .int x8)] → W p l e rmX8_note s m args below meth c H locs 0 0 (MQ below (va_Qi Q (q_B D g A) A) args s rmX8_note.cells rmX8_note.slots A) (F0 m 303 ls []) := by
    intro a0 x3 x4 x5 x6 x7 x8 S H locs ls h hp hl
    unfold wX8_note_b303 at h
    refine lv_aload_n hx hb dX8_note_303 rfl (q_at hl 0 rfl) ?_
    refine q_rGR C hp h rfl iX8_note_X8 (by decide) kX8_note_13 dX8_note_304 (fun r_1 h => ?_)
    refine lv_iload hx hb dX8_note_307 (q_at hl 6 rfl) ?_
    refine lv_iload_n hx hb dX8_note_309 rfl (q_at hl 1 rfl) ?_
    refine q_rSI C hp h dX8_note_310 (fun S_2 H locs h hp => ?_)
    refine lv_aload_n hx hb dX8_note_311 rfl (q_at hl 0 rfl) ?_
    refine q_rGR C hp h rfl iX8_note_X8 (by decide) kX8_note_16 dX8_note_312 (fun r_3 h => ?_)
    refine lv_iload hx hb dX8_note_315 (q_at hl 6 rfl) ?_
    refine lv_iload hx hb dX8_note_317 (q_at hl 2 rfl) ?_
    refine q_rSI C hp h dX8_note_319 (fun S_4 H locs h hp => ?_)
    refine lv_aload_n hx hb dX8_note_320 rfl (q_at hl 0 rfl) ?_
    refine q_rGR C hp h rfl iX8_note_X8 (by decide) kX8_note_19 dX8_note_321 (fun r_5 h => ?_)
    refine lv_iload hx hb dX8_note_324 (q_at hl 6 rfl) ?_
    refine lv_iload hx hb dX8_note_326 (q_at hl 3 rfl) ?_
    refine q_rSI C hp h dX8_note_328 (fun S_6 H locs h hp => ?_)
    refine lv_aload_n hx hb dX8_note_329 rfl (q_at hl 0 rfl) ?_
    refine q_rGR C hp h rfl iX8_note_X8 (by decide) kX8_note_22 dX8_note_330 (fun r_7 h => ?_)
    refine lv_iload hx hb dX8_note_333 (q_at hl 6 rfl) ?_
    refine lv_iload hx hb dX8_note_335 (q_at hl 4 rfl) ?_
    refine q_rSI C hp h dX8_note_337 (fun S_8 H locs h hp => ?_)
    refine lv_aload_n hx hb dX8_note_338 rfl (q_at hl 0 rfl) ?_
    refine q_rGR C hp h rfl iX8_note_X8 (by decide) kX8_note_7 dX8_note_339 (fun r_9 h => ?_)
    refine lv_iload hx hb dX8_note_342 (q_at hl 5 rfl) ?_
    refine lv_dup2_11 hx hb dX8_note_344 rfl rfl ?_
    refine q_rLI C hp h dX8_note_345 (fun v_10 h => ?_)
    refine lv_iconst (v := 1) hx hb dX8_note_346 (by decide) ?_
    refine lv_iadd hx hb dX8_note_347 ?_
    refine q_rSI C hp h dX8_note_348 (fun S_11 H locs h hp => ?_)
    refine lv_aload_n hx hb dX8_note_349 rfl (q_at hl 0 rfl) ?_
    refine q_rGR C hp h rfl iX8_note_X8 (by decide) kX8_note_7 dX8_note_350 (fun r_12 h => ?_)
    refine lv_iload hx hb dX8_note_353 (q_at hl 5 rfl) ?_
    refine q_rLI C hp h dX8_note_355 (fun v_13 h => ?_)
    exact q_iret C hp hr h dX8_note_356
  have j233 : ∀ (k183 : Nat → Int32 → Int32 → Int32 → Int32 → Int32 → Int32 → q_S → Prop) (ih183 : ∀ (a0 : Nat) (x3 : Int32) (x4 : Int32) (x5 : Int32) (x6 : Int32) (x7 : Int32) (x8 : Int32) (S : q_S) (H : Heap) (locs : List Loc) (ls : Array Slot), k183 a0 x3 x4 x5 x6 x7 x8 S → q_P D g A s.heap S H locs → q_l ls 9 [(0, .ref a0), (3, .int x3), (4, .int x4), (5, .int x5), (6, .int x6), (7, .int x7), (8, .int x8)] → W p l e rmX8_note s m args below meth c H locs 0 0 (MQ below (va_Qi Q (q_B D g A) A) args s rmX8_note.cells rmX8_note.slots A) (F0 m 183 ls [])) (a0 : Nat) (x3 : Int32) (x4 : Int32) (x5 : Int32) (x6 : Int32) (x7 : Int32) (x8 : Int32) (S : q_S) (H : Heap) (locs : List Loc) (ls : Array Slot), wX8_note_b233 Q k183 a0 x3 x4 x5 x6 x7 x8 S → q_P D g A s.heap S H locs → q_l ls 9 [(0, .ref a0), (3, .int x3), (4, .int x4), (5, .int x5), (6, .int x6), (7, .int x7), (8, .int x8)] → W p l e rmX8_note s m args below meth c H locs 0 0 (MQ below (va_Qi Q (q_B D g A) A) args s rmX8_note.cells rmX8_note.slots A) (F0 m 233 ls []) := by
    intro k183 ih183 a0 x3 x4 x5 x6 x7 x8 S H locs ls h hp hl
    unfold wX8_note_b233 at h
    refine lv_aload_n hx hb dX8_note_233 rfl (q_at hl 0 rfl) ?_
    refine q_rGR C hp h rfl iX8_note_X8 (by decide) kX8_note_13 dX8_note_234 (fun r_14 h => ?_)
    refine lv_iload hx hb dX8_note_237 (q_at hl 6 rfl) ?_
    refine lv_aload_n hx hb dX8_note_239 rfl (q_at hl 0 rfl) ?_
    refine q_rGR C hp h rfl iX8_note_X8 (by decide) kX8_note_13 dX8_note_240 (fun r_15 h => ?_)
    refine lv_iload hx hb dX8_note_243 (q_at hl 6 rfl) ?_
    refine lv_iconst (v := 1) hx hb dX8_note_245 (by decide) ?_
    refine lv_isub hx hb dX8_note_246 ?_
    refine q_rLI C hp h dX8_note_247 (fun v_16 h => ?_)
    refine q_rSI C hp h dX8_note_248 (fun S_17 H locs h hp => ?_)
    refine lv_aload_n hx hb dX8_note_249 rfl (q_at hl 0 rfl) ?_
    refine q_rGR C hp h rfl iX8_note_X8 (by decide) kX8_note_16 dX8_note_250 (fun r_18 h => ?_)
    refine lv_iload hx hb dX8_note_253 (q_at hl 6 rfl) ?_
    refine lv_aload_n hx hb dX8_note_255 rfl (q_at hl 0 rfl) ?_
    refine q_rGR C hp h rfl iX8_note_X8 (by decide) kX8_note_16 dX8_note_256 (fun r_19 h => ?_)
    refine lv_iload hx hb dX8_note_259 (q_at hl 6 rfl) ?_
    refine lv_iconst (v := 1) hx hb dX8_note_261 (by decide) ?_
    refine lv_isub hx hb dX8_note_262 ?_
    refine q_rLI C hp h dX8_note_263 (fun v_20 h => ?_)
    refine q_rSI C hp h dX8_note_264 (fun S_21 H locs h hp => ?_)
    refine lv_aload_n hx hb dX8_note_265 rfl (q_at hl 0 rfl) ?_
    refine q_rGR C hp h rfl iX8_note_X8 (by decide) kX8_note_19 dX8_note_266 (fun r_22 h => ?_)
    refine lv_iload hx hb dX8_note_269 (q_at hl 6 rfl) ?_
    refine lv_aload_n hx hb dX8_note_271 rfl (q_at hl 0 rfl) ?_
    refine q_rGR C hp h rfl iX8_note_X8 (by decide) kX8_note_19 dX8_note_272 (fun r_23 h => ?_)
    refine lv_iload hx hb dX8_note_275 (q_at hl 6 rfl) ?_
    refine lv_iconst (v := 1) hx hb dX8_note_277 (by decide) ?_
    refine lv_isub hx hb dX8_note_278 ?_
    refine q_rLI C hp h dX8_note_279 (fun v_24 h => ?_)
    refine q_rSI C hp h dX8_note_280 (fun S_25 H locs h hp => ?_)
    refine lv_aload_n hx hb dX8_note_281 rfl (q_at hl 0 rfl) ?_
    refine q_rGR C hp h rfl iX8_note_X8 (by decide) kX8_note_22 dX8_note_282 (fun r_26 h => ?_)
    refine lv_iload hx hb dX8_note_285 (q_at hl 6 rfl) ?_
    refine lv_aload_n hx hb dX8_note_287 rfl (q_at hl 0 rfl) ?_
    refine q_rGR C hp h rfl iX8_note_X8 (by decide) kX8_note_22 dX8_note_288 (fun r_27 h => ?_)
    refine lv_iload hx hb dX8_note_291 (q_at hl 6 rfl) ?_
    refine lv_iconst (v := 1) hx hb dX8_note_293 (by decide) ?_
    refine lv_isub hx hb dX8_note_294 ?_
    refine q_rLI C hp h dX8_note_295 (fun v_28 h => ?_)
    refine q_rSI C hp h dX8_note_296 (fun S_29 H locs h hp => ?_)
    refine q_inc (x := x8) (v := (x8 + (-1 : Int32))) (lv' := [(8, .int (x8 + (-1 : Int32))), (0, .ref a0), (3, .int x3), (4, .int x4), (5, .int x5), (6, .int x6), (7, .int x7)]) hx hb dX8_note_297 hl (k := 6) rfl rfl (by decide) rfl (fun ls hl => ?_)
    refine lv_goto (tgt := 183) hx hb dX8_note_300 (by decide) ?_
    exact ih183 a0 x3 x4 x5 x6 x7 (x8 + (-1 : Int32)) _ _ _ _ h hp (q_sub hl [1, 2, 3, 4, 5, 6, 0] rfl)
  have j183 : ∀ (n : Nat), ∀ (a0 : Nat) (x3 : Int32) (x4 : Int32) (x5 : Int32) (x6 : Int32) (x7 : Int32) (x8 : Int32) (S : q_S) (H : Heap) (locs : List Loc) (ls : Array Slot), lX8_note_b183 Q n a0 x3 x4 x5 x6 x7 x8 S → q_P D g A s.heap S H locs → q_l ls 9 [(0, .ref a0), (3, .int x3), (4, .int x4), (5, .int x5), (6, .int x6), (7, .int x7), (8, .int x8)] → W p l e rmX8_note s m args below meth c H locs 0 0 (MQ below (va_Qi Q (q_B D g A) A) args s rmX8_note.cells rmX8_note.slots A) (F0 m 183 ls []) := by
    intro n
    induction n with
    | zero => intro a0 x3 x4 x5 x6 x7 x8 S H locs ls h; exact absurd h (fun h => h)
    | succ n ih183 =>
      intro a0 x3 x4 x5 x6 x7 x8 S H locs ls h hp hl
      have h : wX8_note_b183 Q (lX8_note_b183 Q n) a0 x3 x4 x5 x6 x7 x8 S := h
      unfold wX8_note_b183 at h
      refine lv_iload hx hb dX8_note_183 (q_at hl 6 rfl) ?_
      refine lv_bipush (v := 8) hx hb dX8_note_185 (by decide) ?_
      refine lv_iload hx hb dX8_note_187 (q_at hl 5 rfl) ?_
      refine lv_imul hx hb dX8_note_189 ?_
      refine lv_icmp_le (tgt := 303) hx hb dX8_note_190 (by decide) (fun c_30 => ?_) (fun c_30 => ?_)
      · replace h := h.1 c_30
        exact j303 a0 x3 x4 x5 x6 x7 x8 _ _ _ _ h hp (q_sub hl [0, 1, 2, 3, 4, 5, 6] rfl)
      · replace h := h.2 c_30
        refine lv_aload_n hx hb dX8_note_193 rfl (q_at hl 0 rfl) ?_
        refine q_rGR C hp h rfl iX8_note_X8 (by decide) kX8_note_13 dX8_note_194 (fun r_31 h => ?_)
        refine lv_iload hx hb dX8_note_197 (q_at hl 6 rfl) ?_
        refine lv_iconst (v := 1) hx hb dX8_note_199 (by decide) ?_
        refine lv_isub hx hb dX8_note_200 ?_
        refine q_rLI C hp h dX8_note_201 (fun v_32 h => ?_)
        refine lv_iload_n hx hb dX8_note_202 rfl (q_at hl 1 rfl) ?_
        refine lv_icmp_gt (tgt := 233) hx hb dX8_note_203 (by decide) (fun c_33 => ?_) (fun c_33 => ?_)
        · replace h := h.1 c_33
          exact j233 (lX8_note_b183 Q n) ih183 a0 x3 x4 x5 x6 x7 x8 _ _ _ _ h hp (q_sub hl [0, 1, 2, 3, 4, 5, 6] rfl)
        · replace h := h.2 c_33
          refine lv_aload_n hx hb dX8_note_206 rfl (q_at hl 0 rfl) ?_
          refine q_rGR C hp h rfl iX8_note_X8 (by decide) kX8_note_13 dX8_note_207 (fun r_34 h => ?_)
          refine lv_iload hx hb dX8_note_210 (q_at hl 6 rfl) ?_
          refine lv_iconst (v := 1) hx hb dX8_note_212 (by decide) ?_
          refine lv_isub hx hb dX8_note_213 ?_
          refine q_rLI C hp h dX8_note_214 (fun v_35 h => ?_)
          refine lv_iload_n hx hb dX8_note_215 rfl (q_at hl 1 rfl) ?_
          refine lv_icmp_ne (tgt := 303) hx hb dX8_note_216 (by decide) (fun c_36 => ?_) (fun c_36 => ?_)
          · replace h := h.1 c_36
            exact j303 a0 x3 x4 x5 x6 x7 x8 _ _ _ _ h hp (q_sub hl [0, 1, 2, 3, 4, 5, 6] rfl)
          · replace h := h.2 c_36
            refine lv_aload_n hx hb dX8_note_219 rfl (q_at hl 0 rfl) ?_
            refine q_rGR C hp h rfl iX8_note_X8 (by decide) kX8_note_19 dX8_note_220 (fun r_37 h => ?_)
            refine lv_iload hx hb dX8_note_223 (q_at hl 6 rfl) ?_
            refine lv_iconst (v := 1) hx hb dX8_note_225 (by decide) ?_
            refine lv_isub hx hb dX8_note_226 ?_
            refine q_rLI C hp h dX8_note_227 (fun v_38 h => ?_)
            refine lv_iload hx hb dX8_note_228 (q_at hl 3 rfl) ?_
            refine lv_icmp_le (tgt := 303) hx hb dX8_note_230 (by decide) (fun c_39 => ?_) (fun c_39 => ?_)
            · replace h := h.1 c_39
              exact j303 a0 x3 x4 x5 x6 x7 x8 _ _ _ _ h hp (q_sub hl [0, 1, 2, 3, 4, 5, 6] rfl)
            · replace h := h.2 c_39
              exact j233 (lX8_note_b183 Q n) ih183 a0 x3 x4 x5 x6 x7 x8 _ _ _ _ h hp (q_sub hl [0, 1, 2, 3, 4, 5, 6] rfl)
  have j147 : ∀ (k97 : Nat → Int32 → Int32 → Int32 → Int32 → Int32 → Int32 → q_S → Prop) (ih97 : ∀ (a0 : Nat) (x3 : Int32) (x4 : Int32) (x5 : Int32) (x6 : Int32) (x7 : Int32) (x8 : Int32) (S : q_S) (H : Heap) (locs : List Loc) (ls : Array Slot), k97 a0 x3 x4 x5 x6 x7 x8 S → q_P D g A s.heap S H locs → q_l ls 9 [(0, .ref a0), (3, .int x3), (4, .int x4), (5, .int x5), (6, .int x6), (7, .int x7), (8, .int x8)] → W p l e rmX8_note s m args below meth c H locs 0 0 (MQ below (va_Qi Q (q_B D g A) A) args s rmX8_note.cells rmX8_note.slots A) (F0 m 97 ls [])) (a0 : Nat) (x3 : Int32) (x4 : Int32) (x5 : Int32) (x6 : Int32) (x7 : Int32) (x8 : Int32) (S : q_S) (H : Heap) (locs : List Loc) (ls : Array Slot), wX8_note_b147 Q k97 a0 x3 x4 x5 x6 x7 x8 S → q_P D g A s.heap S H locs → q_l ls 9 [(0, .ref a0), (3, .int x3), (4, .int x4), (5, .int x5), (6, .int x6), (7, .int x7), (8, .int x8)] → W p l e rmX8_note s m args below meth c H locs 0 0 (MQ below (va_Qi Q (q_B D g A) A) args s rmX8_note.cells rmX8_note.slots A) (F0 m 147 ls []) := by
    intro k97 ih97 a0 x3 x4 x5 x6 x7 x8 S H locs ls h hp hl
    unfold wX8_note_b147 at h
    refine q_inc (x := x8) (v := (x8 + (1 : Int32))) (lv' := [(8, .int (x8 + (1 : Int32))), (0, .ref a0), (3, .int x3), (4, .int x4), (5, .int x5), (6, .int x6), (7, .int x7)]) hx hb dX8_note_147 hl (k := 6) rfl rfl (by decide) rfl (fun ls hl => ?_)
    refine lv_goto (tgt := 97) hx hb dX8_note_150 (by decide) ?_
    exact ih97 a0 x3 x4 x5 x6 x7 (x8 + (1 : Int32)) _ _ _ _ h hp (q_sub hl [1, 2, 3, 4, 5, 6, 0] rfl)
  have j97 : ∀ (n : Nat), ∀ (a0 : Nat) (x3 : Int32) (x4 : Int32) (x5 : Int32) (x6 : Int32) (x7 : Int32) (x8 : Int32) (S : q_S) (H : Heap) (locs : List Loc) (ls : Array Slot), lX8_note_b97 Q n a0 x3 x4 x5 x6 x7 x8 S → q_P D g A s.heap S H locs → q_l ls 9 [(0, .ref a0), (3, .int x3), (4, .int x4), (5, .int x5), (6, .int x6), (7, .int x7), (8, .int x8)] → W p l e rmX8_note s m args below meth c H locs 0 0 (MQ below (va_Qi Q (q_B D g A) A) args s rmX8_note.cells rmX8_note.slots A) (F0 m 97 ls []) := by
    intro n
    induction n with
    | zero => intro a0 x3 x4 x5 x6 x7 x8 S H locs ls h; exact absurd h (fun h => h)
    | succ n ih97 =>
      intro a0 x3 x4 x5 x6 x7 x8 S H locs ls h hp hl
      have h : wX8_note_b97 Q (lX8_note_b97 Q n) a0 x3 x4 x5 x6 x7 x8 S := h
      unfold wX8_note_b97 at h
      refine lv_iload hx hb dX8_note_97 (q_at hl 6 rfl) ?_
      refine lv_aload_n hx hb dX8_note_99 rfl (q_at hl 0 rfl) ?_
      refine q_rGR C hp h rfl iX8_note_X8 (by decide) kX8_note_7 dX8_note_100 (fun r_40 h => ?_)
      refine lv_iload hx hb dX8_note_103 (q_at hl 5 rfl) ?_
      refine q_rLI C hp h dX8_note_105 (fun v_41 h => ?_)
      refine lv_icmp_ge (tgt := 153) hx hb dX8_note_106 (by decide) (fun c_42 => ?_) (fun c_42 => ?_)
      · replace h := h.1 c_42
        refine lv_aload_n hx hb dX8_note_153 rfl (q_at hl 0 rfl) ?_
        refine q_rGR C hp h rfl iX8_note_X8 (by decide) kX8_note_7 dX8_note_154 (fun r_43 h => ?_)
        refine lv_iload hx hb dX8_note_157 (q_at hl 5 rfl) ?_
        refine q_rLI C hp h dX8_note_159 (fun v_44 h => ?_)
        refine lv_bipush (v := 8) hx hb dX8_note_160 (by decide) ?_
        refine lv_icmp_ne (tgt := 168) hx hb dX8_note_162 (by decide) (fun c_45 => ?_) (fun c_45 => ?_)
        · replace h := h.1 c_45
          refine lv_bipush (v := 8) hx hb dX8_note_168 (by decide) ?_
          refine lv_iload hx hb dX8_note_170 (q_at hl 5 rfl) ?_
          refine lv_imul hx hb dX8_note_172 ?_
          refine lv_aload_n hx hb dX8_note_173 rfl (q_at hl 0 rfl) ?_
          refine q_rGR C hp h rfl iX8_note_X8 (by decide) kX8_note_7 dX8_note_174 (fun r_46 h => ?_)
          refine lv_iload hx hb dX8_note_177 (q_at hl 5 rfl) ?_
          refine q_rLI C hp h dX8_note_179 (fun v_47 h => ?_)
          refine lv_iadd hx hb dX8_note_180 ?_
          refine q_ist (lv' := [(8, .int (((8 : Int32) * x7) + v_47)), (0, .ref a0), (3, .int x3), (4, .int x4), (5, .int x5), (6, .int x6), (7, .int x7)]) hx hb dX8_note_181 hl (by decide) rfl (fun ls hl => ?_)
          exact j183 q_fuel a0 x3 x4 x5 x6 x7 (((8 : Int32) * x7) + v_47) _ _ _ _ h hp (q_sub hl [1, 2, 3, 4, 5, 6, 0] rfl)
        · replace h := h.2 c_45
          refine lv_bipush (v := (-104)) hx hb dX8_note_165 (by decide) ?_
          exact q_iret C hp hr h dX8_note_167
      · replace h := h.2 c_42
        refine lv_aload_n hx hb dX8_note_109 rfl (q_at hl 0 rfl) ?_
        refine q_rGR C hp h rfl iX8_note_X8 (by decide) kX8_note_13 dX8_note_110 (fun r_48 h => ?_)
        refine lv_bipush (v := 8) hx hb dX8_note_113 (by decide) ?_
        refine lv_iload hx hb dX8_note_115 (q_at hl 5 rfl) ?_
        refine lv_imul hx hb dX8_note_117 ?_
        refine lv_iload hx hb dX8_note_118 (q_at hl 6 rfl) ?_
        refine lv_iadd hx hb dX8_note_120 ?_
        refine q_rLI C hp h dX8_note_121 (fun v_49 h => ?_)
        refine lv_iload_n hx hb dX8_note_122 rfl (q_at hl 1 rfl) ?_
        refine lv_icmp_ne (tgt := 147) hx hb dX8_note_123 (by decide) (fun c_50 => ?_) (fun c_50 => ?_)
        · replace h := h.1 c_50
          exact j147 (lX8_note_b97 Q n) ih97 a0 x3 x4 x5 x6 x7 x8 _ _ _ _ h hp (q_sub hl [0, 1, 2, 3, 4, 5, 6] rfl)
        · replace h := h.2 c_50
          refine lv_aload_n hx hb dX8_note_126 rfl (q_at hl 0 rfl) ?_
          refine q_rGR C hp h rfl iX8_note_X8 (by decide) kX8_note_19 dX8_note_127 (fun r_51 h => ?_)
          refine lv_bipush (v := 8) hx hb dX8_note_130 (by decide) ?_
          refine lv_iload hx hb dX8_note_132 (q_at hl 5 rfl) ?_
          refine lv_imul hx hb dX8_note_134 ?_
          refine lv_iload hx hb dX8_note_135 (q_at hl 6 rfl) ?_
          refine lv_iadd hx hb dX8_note_137 ?_
          refine q_rLI C hp h dX8_note_138 (fun v_52 h => ?_)
          refine lv_iload hx hb dX8_note_139 (q_at hl 3 rfl) ?_
          refine lv_icmp_ne (tgt := 147) hx hb dX8_note_141 (by decide) (fun c_53 => ?_) (fun c_53 => ?_)
          · replace h := h.1 c_53
            exact j147 (lX8_note_b97 Q n) ih97 a0 x3 x4 x5 x6 x7 x8 _ _ _ _ h hp (q_sub hl [0, 1, 2, 3, 4, 5, 6] rfl)
          · replace h := h.2 c_53
            refine lv_bipush (v := (-103)) hx hb dX8_note_144 (by decide) ?_
            exact q_iret C hp hr h dX8_note_146
  unfold wX8_note at h
  replace h := h.2
  refine lv_aload_n hx hb dX8_note_0 rfl (q_at hl 0 rfl) ?_
  refine lv_iload_n hx hb dX8_note_1 rfl (q_at hl 1 rfl) ?_
  refine q_finI0 C hp (q_runV (As := [.int x1]) (rest := []) C hp (RX8_isVoice l D g _ a0 x1 _ h _) (cwV 1 C.2.2.2.2.1 gX8_note_X8_isVoice rfl rfl rfl (by decide +kernel) ⟨(Nat.le_of_ble_eq_true rfl), (Nat.le_of_ble_eq_true rfl)⟩) h.1 rfl rfl hl.1.1 rfl (Nat.le_of_ble_eq_true rfl) dX8_note_2 ⟨(Nat.le_of_ble_eq_true rfl), (Nat.le_of_ble_eq_true rfl)⟩) rfl rfl (fun v_55 S_54 H locs h hp => ?_)
  refine lv_if_eq (tgt := 16) hx hb dX8_note_5 (by decide) (fun c_56 => ?_) (fun c_56 => ?_)
  · replace h := h.1 c_56
    refine lv_bipush (v := (-101)) hx hb dX8_note_16 (by decide) ?_
    exact q_iret C hp hr h dX8_note_18
  · replace h := h.2 c_56
    refine lv_aload_n hx hb dX8_note_8 rfl (q_at hl 0 rfl) ?_
    refine lv_iload_n hx hb dX8_note_9 rfl (q_at hl 2 rfl) ?_
    refine q_finI0 C hp (q_runV (As := [.int x2]) (rest := []) C hp (RX8_isBar l D g _ a0 x2 _ h _) (cwV 1 C.2.2.2.2.1 gX8_note_X8_isBar rfl rfl rfl (by decide +kernel) ⟨(Nat.le_of_ble_eq_true rfl), (Nat.le_of_ble_eq_true rfl)⟩) h.1 rfl rfl hl.1.1 rfl (Nat.le_of_ble_eq_true rfl) dX8_note_10 ⟨(Nat.le_of_ble_eq_true rfl), (Nat.le_of_ble_eq_true rfl)⟩) rfl rfl (fun v_58 S_57 H locs h hp => ?_)
    refine lv_if_ne (tgt := 19) hx hb dX8_note_13 (by decide) (fun c_59 => ?_) (fun c_59 => ?_)
    · replace h := h.1 c_59
      refine lv_iload_n hx hb dX8_note_19 rfl (q_at hl 3 rfl) ?_
      refine lv_iconst (v := 0) hx hb dX8_note_20 (by decide) ?_
      refine lv_bipush (v := 47) hx hb dX8_note_21 (by decide) ?_
      refine q_finI0 C hp (q_runS (As := [.int x3, .int (0 : Int32), .int (47 : Int32)]) (rest := []) C hp (RX8_in l D g _ x3 (0 : Int32) (47 : Int32) _ h _) (va_cwS 3 C.2.2.2.2.1 gX8_note_X8_in rfl rfl rfl (by decide +kernel) ⟨(Nat.le_of_ble_eq_true rfl), (Nat.le_of_ble_eq_true rfl)⟩) rfl hl.1.1 rfl (Nat.le_of_ble_eq_true rfl) dX8_note_23 ⟨(Nat.le_of_ble_eq_true rfl), (Nat.le_of_ble_eq_true rfl)⟩) rfl rfl (fun v_61 S_60 H locs h hp => ?_)
      refine lv_if_eq (tgt := 83) hx hb dX8_note_26 (by decide) (fun c_62 => ?_) (fun c_62 => ?_)
      · replace h := h.1 c_62
        refine lv_bipush (v := (-102)) hx hb dX8_note_83 (by decide) ?_
        exact q_iret C hp hr h dX8_note_85
      · replace h := h.2 c_62
        refine lv_iload hx hb dX8_note_29 (q_at hl 4 rfl) ?_
        refine lv_iconst (v := 1) hx hb dX8_note_31 (by decide) ?_
        refine lv_bipush (v := 48) hx hb dX8_note_32 (by decide) ?_
        refine lv_iload_n hx hb dX8_note_34 rfl (q_at hl 3 rfl) ?_
        refine lv_isub hx hb dX8_note_35 ?_
        refine q_finI0 C hp (q_runS (As := [.int x4, .int (1 : Int32), .int ((48 : Int32) - x3)]) (rest := []) C hp (RX8_in l D g _ x4 (1 : Int32) ((48 : Int32) - x3) _ h _) (va_cwS 3 C.2.2.2.2.1 gX8_note_X8_in rfl rfl rfl (by decide +kernel) ⟨(Nat.le_of_ble_eq_true rfl), (Nat.le_of_ble_eq_true rfl)⟩) rfl hl.1.1 rfl (Nat.le_of_ble_eq_true rfl) dX8_note_36 ⟨(Nat.le_of_ble_eq_true rfl), (Nat.le_of_ble_eq_true rfl)⟩) rfl rfl (fun v_64 S_63 H locs h hp => ?_)
        refine lv_if_eq (tgt := 83) hx hb dX8_note_39 (by decide) (fun c_65 => ?_) (fun c_65 => ?_)
        · replace h := h.1 c_65
          refine lv_bipush (v := (-102)) hx hb dX8_note_83 (by decide) ?_
          exact q_iret C hp hr h dX8_note_85
        · replace h := h.2 c_65
          refine lv_iload hx hb dX8_note_42 (q_at hl 5 rfl) ?_
          refine lv_iconst (v := 0) hx hb dX8_note_44 (by decide) ?_
          refine lv_bipush (v := 127) hx hb dX8_note_45 (by decide) ?_
          refine q_finI0 C hp (q_runS (As := [.int x5, .int (0 : Int32), .int (127 : Int32)]) (rest := []) C hp (RX8_in l D g _ x5 (0 : Int32) (127 : Int32) _ h _) (va_cwS 3 C.2.2.2.2.1 gX8_note_X8_in rfl rfl rfl (by decide +kernel) ⟨(Nat.le_of_ble_eq_true rfl), (Nat.le_of_ble_eq_true rfl)⟩) rfl hl.1.1 rfl (Nat.le_of_ble_eq_true rfl) dX8_note_47 ⟨(Nat.le_of_ble_eq_true rfl), (Nat.le_of_ble_eq_true rfl)⟩) rfl rfl (fun v_67 S_66 H locs h hp => ?_)
          refine lv_if_eq (tgt := 83) hx hb dX8_note_50 (by decide) (fun c_68 => ?_) (fun c_68 => ?_)
          · replace h := h.1 c_68
            refine lv_bipush (v := (-102)) hx hb dX8_note_83 (by decide) ?_
            exact q_iret C hp hr h dX8_note_85
          · replace h := h.2 c_68
            refine lv_iload hx hb dX8_note_53 (q_at hl 6 rfl) ?_
            refine lv_bipush (v := (-15)) hx hb dX8_note_55 (by decide) ?_
            refine lv_bipush (v := 19) hx hb dX8_note_57 (by decide) ?_
            refine q_finI0 C hp (q_runS (As := [.int x6, .int (-15 : Int32), .int (19 : Int32)]) (rest := []) C hp (RX8_in l D g _ x6 (-15 : Int32) (19 : Int32) _ h _) (va_cwS 3 C.2.2.2.2.1 gX8_note_X8_in rfl rfl rfl (by decide +kernel) ⟨(Nat.le_of_ble_eq_true rfl), (Nat.le_of_ble_eq_true rfl)⟩) rfl hl.1.1 rfl (Nat.le_of_ble_eq_true rfl) dX8_note_59 ⟨(Nat.le_of_ble_eq_true rfl), (Nat.le_of_ble_eq_true rfl)⟩) rfl rfl (fun v_70 S_69 H locs h hp => ?_)
            refine lv_if_eq (tgt := 83) hx hb dX8_note_62 (by decide) (fun c_71 => ?_) (fun c_71 => ?_)
            · replace h := h.1 c_71
              refine lv_bipush (v := (-102)) hx hb dX8_note_83 (by decide) ?_
              exact q_iret C hp hr h dX8_note_85
            · replace h := h.2 c_71
              refine lv_bipush (v := 7) hx hb dX8_note_65 (by decide) ?_
              refine lv_iload hx hb dX8_note_67 (q_at hl 6 rfl) ?_
              refine lv_imul hx hb dX8_note_69 ?_
              refine lv_bipush (v := 12) hx hb dX8_note_70 (by decide) ?_
              refine q_finI0 C hp (q_runS (As := [.int ((7 : Int32) * x6), .int (12 : Int32)]) (rest := []) C hp (RX8_floorMod l D g _ ((7 : Int32) * x6) (12 : Int32) _ h _) (va_cwS 2 C.2.2.2.2.1 gX8_note_X8_floorMod rfl rfl rfl (by decide +kernel) ⟨(Nat.le_of_ble_eq_true rfl), (Nat.le_of_ble_eq_true rfl)⟩) rfl hl.1.1 rfl (Nat.le_of_ble_eq_true rfl) dX8_note_72 ⟨(Nat.le_of_ble_eq_true rfl), (Nat.le_of_ble_eq_true rfl)⟩) rfl rfl (fun v_73 S_72 H locs h hp => ?_)
              refine lv_iload hx hb dX8_note_75 (q_at hl 5 rfl) ?_
              refine lv_bipush (v := 12) hx hb dX8_note_77 (by decide) ?_
              refine lv_irem hx hb dX8_note_79 (by decide) ?_
              refine lv_icmp_eq (tgt := 86) hx hb dX8_note_80 (by decide) (fun c_74 => ?_) (fun c_74 => ?_)
              · replace h := h.1 c_74
                refine lv_bipush (v := 40) hx hb dX8_note_86 (by decide) ?_
                refine lv_iload_n hx hb dX8_note_88 rfl (q_at hl 1 rfl) ?_
                refine lv_imul hx hb dX8_note_89 ?_
                refine lv_iload_n hx hb dX8_note_90 rfl (q_at hl 2 rfl) ?_
                refine lv_iadd hx hb dX8_note_91 ?_
                refine q_ist (lv' := [(7, .int (((40 : Int32) * x1) + x2)), (0, .ref a0), (1, .int x1), (2, .int x2), (3, .int x3), (4, .int x4), (5, .int x5), (6, .int x6)]) hx hb dX8_note_92 hl (by decide) rfl (fun ls hl => ?_)
                refine lv_iconst (v := 0) hx hb dX8_note_94 (by decide) ?_
                refine q_ist (lv' := [(8, .int (0 : Int32)), (7, .int (((40 : Int32) * x1) + x2)), (0, .ref a0), (1, .int x1), (2, .int x2), (3, .int x3), (4, .int x4), (5, .int x5), (6, .int x6)]) hx hb dX8_note_95 hl (by decide) rfl (fun ls hl => ?_)
                exact j97 q_fuel a0 x3 x4 x5 x6 (((40 : Int32) * x1) + x2) (0 : Int32) _ _ _ _ h hp (q_sub hl [2, 5, 6, 7, 8, 1, 0] rfl)
              · replace h := h.2 c_74
                refine lv_bipush (v := (-102)) hx hb dX8_note_83 (by decide) ?_
                exact q_iret C hp hr h dX8_note_85
    · replace h := h.2 c_59
      refine lv_bipush (v := (-101)) hx hb dX8_note_16 (by decide) ?_
      exact q_iret C hp hr h dX8_note_18
theorem kX8_drop_7 : Cond.fieldLink RX8 7 (TX8 2).1 (TX8 2).2.1 (TX8 2).2.2.1 ∈ wsX8_drop := by decide +kernel
theorem iX8_drop_X8 : ∀ w ∈ u_ws RX8 TX8 36, w ∈ wsX8_drop := by decide +kernel
set_option maxHeartbeats 4000000 in
set_option maxRecDepth 100000 in
theorem RX8_drop (l : Launch) (D : va_G) (g : q_A) (S : q_S) (a0 : Nat) (x1 : Int32) (x2 : Int32) (Q : Int32 → q_S → Prop) (h : wX8_drop a0 x1 x2 Q S) : q_Mi l yX8_drop wsX8_drop rmX8_drop D g [.ref a0, .int x1, .int x2] S Q := by
  refine q_Mi.of (cc := cX8_drop) (nL := 4) (rt := .int) (by decide +kernel) rfl (Nat.le_of_ble_eq_true rfl) rfl ?_
  intro p e s m args below meth c ls A C hr hnm hp hl
  have C : q_X p s m args meth c cX8_drop 4 RX8 wsX8_drop D g A := C
  have hx := C.1
  have hb := C.2.1
  have hl : q_l ls 4 [(0, .ref a0), (1, .int x1), (2, .int x2)] := hl
  unfold wX8_drop at h
  replace h := h.2
  refine lv_aload_n hx hb dX8_drop_0 rfl (q_at hl 0 rfl) ?_
  refine lv_iload_n hx hb dX8_drop_1 rfl (q_at hl 1 rfl) ?_
  refine q_finI0 C hp (q_runV (As := [.int x1]) (rest := []) C hp (RX8_isVoice l D g _ a0 x1 _ h _) (cwV 1 C.2.2.2.2.1 gX8_drop_X8_isVoice rfl rfl rfl (by decide +kernel) ⟨(Nat.le_of_ble_eq_true rfl), (Nat.le_of_ble_eq_true rfl)⟩) h.1 rfl rfl hl.1.1 rfl (Nat.le_of_ble_eq_true rfl) dX8_drop_2 ⟨(Nat.le_of_ble_eq_true rfl), (Nat.le_of_ble_eq_true rfl)⟩) rfl rfl (fun v_2 S_1 H locs h hp => ?_)
  refine lv_if_eq (tgt := 16) hx hb dX8_drop_5 (by decide) (fun c_3 => ?_) (fun c_3 => ?_)
  · replace h := h.1 c_3
    refine lv_bipush (v := (-101)) hx hb dX8_drop_16 (by decide) ?_
    exact q_iret C hp hr h dX8_drop_18
  · replace h := h.2 c_3
    refine lv_aload_n hx hb dX8_drop_8 rfl (q_at hl 0 rfl) ?_
    refine lv_iload_n hx hb dX8_drop_9 rfl (q_at hl 2 rfl) ?_
    refine q_finI0 C hp (q_runV (As := [.int x2]) (rest := []) C hp (RX8_isBar l D g _ a0 x2 _ h _) (cwV 1 C.2.2.2.2.1 gX8_drop_X8_isBar rfl rfl rfl (by decide +kernel) ⟨(Nat.le_of_ble_eq_true rfl), (Nat.le_of_ble_eq_true rfl)⟩) h.1 rfl rfl hl.1.1 rfl (Nat.le_of_ble_eq_true rfl) dX8_drop_10 ⟨(Nat.le_of_ble_eq_true rfl), (Nat.le_of_ble_eq_true rfl)⟩) rfl rfl (fun v_5 S_4 H locs h hp => ?_)
    refine lv_if_ne (tgt := 19) hx hb dX8_drop_13 (by decide) (fun c_6 => ?_) (fun c_6 => ?_)
    · replace h := h.1 c_6
      refine lv_aload_n hx hb dX8_drop_19 rfl (q_at hl 0 rfl) ?_
      refine q_rGR C hp h rfl iX8_drop_X8 (by decide) kX8_drop_7 dX8_drop_20 (fun r_7 h => ?_)
      refine lv_bipush (v := 40) hx hb dX8_drop_23 (by decide) ?_
      refine lv_iload_n hx hb dX8_drop_25 rfl (q_at hl 1 rfl) ?_
      refine lv_imul hx hb dX8_drop_26 ?_
      refine lv_iload_n hx hb dX8_drop_27 rfl (q_at hl 2 rfl) ?_
      refine lv_iadd hx hb dX8_drop_28 ?_
      refine q_rLI C hp h dX8_drop_29 (fun v_8 h => ?_)
      refine q_istn (lv' := [(3, .int v_8), (0, .ref a0), (1, .int x1), (2, .int x2)]) hx hb dX8_drop_30 rfl hl (by decide) rfl (fun ls hl => ?_)
      refine lv_aload_n hx hb dX8_drop_31 rfl (q_at hl 1 rfl) ?_
      refine q_rGR C hp h rfl iX8_drop_X8 (by decide) kX8_drop_7 dX8_drop_32 (fun r_9 h => ?_)
      refine lv_bipush (v := 40) hx hb dX8_drop_35 (by decide) ?_
      refine lv_iload_n hx hb dX8_drop_37 rfl (q_at hl 2 rfl) ?_
      refine lv_imul hx hb dX8_drop_38 ?_
      refine lv_iload_n hx hb dX8_drop_39 rfl (q_at hl 3 rfl) ?_
      refine lv_iadd hx hb dX8_drop_40 ?_
      refine lv_iconst (v := 0) hx hb dX8_drop_41 (by decide) ?_
      refine q_rSI C hp h dX8_drop_42 (fun S_10 H locs h hp => ?_)
      refine lv_iload_n hx hb dX8_drop_43 rfl (q_at hl 0 rfl) ?_
      exact q_iret C hp hr h dX8_drop_44
    · replace h := h.2 c_6
      refine lv_bipush (v := (-101)) hx hb dX8_drop_16 (by decide) ?_
      exact q_iret C hp hr h dX8_drop_18
theorem kX8_mark_25 : Cond.fieldLink RX8 25 (TX8 7).1 (TX8 7).2.1 (TX8 7).2.2.1 ∈ wsX8_mark := by decide +kernel
theorem kX8_mark_29 : Cond.fieldLink RX8 29 (TX8 8).1 (TX8 8).2.1 (TX8 8).2.2.1 ∈ wsX8_mark := by decide +kernel
theorem iX8_mark_X8 : ∀ w ∈ u_ws RX8 TX8 36, w ∈ wsX8_mark := by decide +kernel
set_option maxHeartbeats 4000000 in
set_option maxRecDepth 100000 in
theorem RX8_mark (l : Launch) (D : va_G) (g : q_A) (S : q_S) (a0 : Nat) (x1 : Int32) (x2 : Int32) (x3 : Int32) (Q : Int32 → q_S → Prop) (h : wX8_mark a0 x1 x2 x3 Q S) : q_Mi l yX8_mark wsX8_mark rmX8_mark D g [.ref a0, .int x1, .int x2, .int x3] S Q := by
  refine q_Mi.of (cc := cX8_mark) (nL := 6) (rt := .int) (by decide +kernel) rfl (Nat.le_of_ble_eq_true rfl) rfl ?_
  intro p e s m args below meth c ls A C hr hnm hp hl
  have C : q_X p s m args meth c cX8_mark 6 RX8 wsX8_mark D g A := C
  have hx := C.1
  have hb := C.2.1
  have hl : q_l ls 6 [(0, .ref a0), (1, .int x1), (2, .int x2), (3, .int x3)] := hl
  have j81 : ∀ (a0 : Nat) (x3 : Int32) (x4 : Int32) (y0 : Int32) (S : q_S) (H : Heap) (locs : List Loc) (ls : Array Slot), wX8_mark_b81 Q a0 x3 x4 y0 S → q_P D g A s.heap S H locs → q_l ls 6 [(0, .ref a0), (3, .int x3), (4, .int x4)] → W p l e rmX8_mark s m args below meth c H locs 0 0 (MQ below (va_Qi Q (q_B D g A) A) args s rmX8_mark.cells rmX8_mark.slots A) (F0 m 81 ls [.int y0]) := by
    intro a0 x3 x4 y0 S H locs ls h hp hl
    unfold wX8_mark_b81 at h
    refine q_ist (lv' := [(5, .int y0), (0, .ref a0), (3, .int x3), (4, .int x4)]) hx hb dX8_mark_81 hl (by decide) rfl (fun ls hl => ?_)
    refine lv_aload_n hx hb dX8_mark_83 rfl (q_at hl 1 rfl) ?_
    refine q_rGR C hp h rfl iX8_mark_X8 (by decide) kX8_mark_25 dX8_mark_84 (fun r_1 h => ?_)
    refine lv_iload hx hb dX8_mark_87 (q_at hl 3 rfl) ?_
    refine lv_iconst (v := 1) hx hb dX8_mark_89 (by decide) ?_
    refine q_rSZ C hp h dX8_mark_90 (fun S_2 H locs h hp => ?_)
    refine lv_aload_n hx hb dX8_mark_91 rfl (q_at hl 1 rfl) ?_
    refine q_rGR C hp h rfl iX8_mark_X8 (by decide) kX8_mark_29 dX8_mark_92 (fun r_3 h => ?_)
    refine lv_iload hx hb dX8_mark_95 (q_at hl 3 rfl) ?_
    refine lv_iload_n hx hb dX8_mark_97 rfl (q_at hl 2 rfl) ?_
    refine q_rSI C hp h dX8_mark_98 (fun S_4 H locs h hp => ?_)
    refine lv_iload hx hb dX8_mark_99 (q_at hl 0 rfl) ?_
    exact q_iret C hp hr h dX8_mark_101
  have j52 : ∀ (a0 : Nat) (x1 : Int32) (x2 : Int32) (x3 : Int32) (S : q_S) (H : Heap) (locs : List Loc) (ls : Array Slot), wX8_mark_b52 Q a0 x1 x2 x3 S → q_P D g A s.heap S H locs → q_l ls 6 [(0, .ref a0), (1, .int x1), (2, .int x2), (3, .int x3)] → W p l e rmX8_mark s m args below meth c H locs 0 0 (MQ below (va_Qi Q (q_B D g A) A) args s rmX8_mark.cells rmX8_mark.slots A) (F0 m 52 ls []) := by
    intro a0 x1 x2 x3 S H locs ls h hp hl
    unfold wX8_mark_b52 at h
    refine lv_iconst (v := 5) hx hb dX8_mark_52 (by decide) ?_
    refine lv_iload_n hx hb dX8_mark_53 rfl (q_at hl 1 rfl) ?_
    refine lv_imul hx hb dX8_mark_54 ?_
    refine lv_iload_n hx hb dX8_mark_55 rfl (q_at hl 2 rfl) ?_
    refine lv_iadd hx hb dX8_mark_56 ?_
    refine q_ist (lv' := [(4, .int (((5 : Int32) * x1) + x2)), (0, .ref a0), (1, .int x1), (2, .int x2), (3, .int x3)]) hx hb dX8_mark_57 hl (by decide) rfl (fun ls hl => ?_)
    refine lv_aload_n hx hb dX8_mark_59 rfl (q_at hl 1 rfl) ?_
    refine q_rGR C hp h rfl iX8_mark_X8 (by decide) kX8_mark_25 dX8_mark_60 (fun r_5 h => ?_)
    refine lv_iload hx hb dX8_mark_63 (q_at hl 0 rfl) ?_
    refine q_rLZ C hp h dX8_mark_65 (fun v_6 h => ?_)
    refine lv_if_eq (tgt := 79) hx hb dX8_mark_66 (by decide) (fun c_7 => ?_) (fun c_7 => ?_)
    · replace h := h.1 c_7
      refine lv_bipush (v := (-100)) hx hb dX8_mark_79 (by decide) ?_
      exact j81 a0 x3 (((5 : Int32) * x1) + x2) (-100 : Int32) _ _ _ _ h hp (q_sub hl [1, 4, 0] rfl)
    · replace h := h.2 c_7
      refine lv_aload_n hx hb dX8_mark_69 rfl (q_at hl 1 rfl) ?_
      refine q_rGR C hp h rfl iX8_mark_X8 (by decide) kX8_mark_29 dX8_mark_70 (fun r_8 h => ?_)
      refine lv_iload hx hb dX8_mark_73 (q_at hl 0 rfl) ?_
      refine q_rLI C hp h dX8_mark_75 (fun v_9 h => ?_)
      refine lv_goto (tgt := 81) hx hb dX8_mark_76 (by decide) ?_
      exact j81 a0 x3 (((5 : Int32) * x1) + x2) v_9 _ _ _ _ h hp (q_sub hl [1, 4, 0] rfl)
  unfold wX8_mark at h
  replace h := h.2
  refine lv_aload_n hx hb dX8_mark_0 rfl (q_at hl 0 rfl) ?_
  refine lv_iload_n hx hb dX8_mark_1 rfl (q_at hl 1 rfl) ?_
  refine q_finI0 C hp (q_runV (As := [.int x1]) (rest := []) C hp (RX8_isBar l D g _ a0 x1 _ h _) (cwV 1 C.2.2.2.2.1 gX8_mark_X8_isBar rfl rfl rfl (by decide +kernel) ⟨(Nat.le_of_ble_eq_true rfl), (Nat.le_of_ble_eq_true rfl)⟩) h.1 rfl rfl hl.1.1 rfl (Nat.le_of_ble_eq_true rfl) dX8_mark_2 ⟨(Nat.le_of_ble_eq_true rfl), (Nat.le_of_ble_eq_true rfl)⟩) rfl rfl (fun v_11 S_10 H locs h hp => ?_)
  refine lv_if_ne (tgt := 11) hx hb dX8_mark_5 (by decide) (fun c_12 => ?_) (fun c_12 => ?_)
  · replace h := h.1 c_12
    refine lv_iload_n hx hb dX8_mark_11 rfl (q_at hl 2 rfl) ?_
    refine lv_iconst (v := 0) hx hb dX8_mark_12 (by decide) ?_
    refine lv_iconst (v := 4) hx hb dX8_mark_13 (by decide) ?_
    refine q_finI0 C hp (q_runS (As := [.int x2, .int (0 : Int32), .int (4 : Int32)]) (rest := []) C hp (RX8_in l D g _ x2 (0 : Int32) (4 : Int32) _ h _) (va_cwS 3 C.2.2.2.2.1 gX8_mark_X8_in rfl rfl rfl (by decide +kernel) ⟨(Nat.le_of_ble_eq_true rfl), (Nat.le_of_ble_eq_true rfl)⟩) rfl hl.1.1 rfl (Nat.le_of_ble_eq_true rfl) dX8_mark_14 ⟨(Nat.le_of_ble_eq_true rfl), (Nat.le_of_ble_eq_true rfl)⟩) rfl rfl (fun v_14 S_13 H locs h hp => ?_)
    refine lv_if_eq (tgt := 49) hx hb dX8_mark_17 (by decide) (fun c_15 => ?_) (fun c_15 => ?_)
    · replace h := h.1 c_15
      refine lv_bipush (v := (-102)) hx hb dX8_mark_49 (by decide) ?_
      exact q_iret C hp hr h dX8_mark_51
    · replace h := h.2 c_15
      refine lv_iload_n hx hb dX8_mark_20 rfl (q_at hl 2 rfl) ?_
      refine lv_if_ne (tgt := 38) hx hb dX8_mark_21 (by decide) (fun c_16 => ?_) (fun c_16 => ?_)
      · replace h := h.1 c_16
        refine lv_iload_n hx hb dX8_mark_38 rfl (q_at hl 3 rfl) ?_
        refine lv_iconst (v := 0) hx hb dX8_mark_39 (by decide) ?_
        refine lv_sipush (v := 999) hx hb dX8_mark_40 (by decide) ?_
        refine q_finI0 C hp (q_runS (As := [.int x3, .int (0 : Int32), .int (999 : Int32)]) (rest := []) C hp (RX8_in l D g _ x3 (0 : Int32) (999 : Int32) _ h _) (va_cwS 3 C.2.2.2.2.1 gX8_mark_X8_in rfl rfl rfl (by decide +kernel) ⟨(Nat.le_of_ble_eq_true rfl), (Nat.le_of_ble_eq_true rfl)⟩) rfl hl.1.1 rfl (Nat.le_of_ble_eq_true rfl) dX8_mark_43 ⟨(Nat.le_of_ble_eq_true rfl), (Nat.le_of_ble_eq_true rfl)⟩) rfl rfl (fun v_18 S_17 H locs h hp => ?_)
        refine lv_if_ne (tgt := 52) hx hb dX8_mark_46 (by decide) (fun c_19 => ?_) (fun c_19 => ?_)
        · replace h := h.1 c_19
          exact j52 a0 x1 x2 x3 _ _ _ _ h hp (q_sub hl [0, 1, 2, 3] rfl)
        · replace h := h.2 c_19
          refine lv_bipush (v := (-102)) hx hb dX8_mark_49 (by decide) ?_
          exact q_iret C hp hr h dX8_mark_51
      · replace h := h.2 c_16
        refine lv_iload_n hx hb dX8_mark_24 rfl (q_at hl 3 rfl) ?_
        refine lv_bipush (v := (-7)) hx hb dX8_mark_25 (by decide) ?_
        refine lv_bipush (v := 7) hx hb dX8_mark_27 (by decide) ?_
        refine q_finI0 C hp (q_runS (As := [.int x3, .int (-7 : Int32), .int (7 : Int32)]) (rest := []) C hp (RX8_in l D g _ x3 (-7 : Int32) (7 : Int32) _ h _) (va_cwS 3 C.2.2.2.2.1 gX8_mark_X8_in rfl rfl rfl (by decide +kernel) ⟨(Nat.le_of_ble_eq_true rfl), (Nat.le_of_ble_eq_true rfl)⟩) rfl hl.1.1 rfl (Nat.le_of_ble_eq_true rfl) dX8_mark_29 ⟨(Nat.le_of_ble_eq_true rfl), (Nat.le_of_ble_eq_true rfl)⟩) rfl rfl (fun v_21 S_20 H locs h hp => ?_)
        refine lv_if_ne (tgt := 52) hx hb dX8_mark_32 (by decide) (fun c_22 => ?_) (fun c_22 => ?_)
        · replace h := h.1 c_22
          exact j52 a0 x1 x2 x3 _ _ _ _ h hp (q_sub hl [0, 1, 2, 3] rfl)
        · replace h := h.2 c_22
          refine lv_goto (tgt := 49) hx hb dX8_mark_35 (by decide) ?_
          refine lv_bipush (v := (-102)) hx hb dX8_mark_49 (by decide) ?_
          exact q_iret C hp hr h dX8_mark_51
  · replace h := h.2 c_12
    refine lv_bipush (v := (-101)) hx hb dX8_mark_8 (by decide) ?_
    exact q_iret C hp hr h dX8_mark_10
theorem kX8_unmark_25 : Cond.fieldLink RX8 25 (TX8 7).1 (TX8 7).2.1 (TX8 7).2.2.1 ∈ wsX8_unmark := by decide +kernel
theorem kX8_unmark_29 : Cond.fieldLink RX8 29 (TX8 8).1 (TX8 8).2.1 (TX8 8).2.2.1 ∈ wsX8_unmark := by decide +kernel
theorem iX8_unmark_X8 : ∀ w ∈ u_ws RX8 TX8 36, w ∈ wsX8_unmark := by decide +kernel
set_option maxHeartbeats 4000000 in
set_option maxRecDepth 100000 in
theorem RX8_unmark (l : Launch) (D : va_G) (g : q_A) (S : q_S) (a0 : Nat) (x1 : Int32) (x2 : Int32) (Q : Int32 → q_S → Prop) (h : wX8_unmark a0 x1 x2 Q S) : q_Mi l yX8_unmark wsX8_unmark rmX8_unmark D g [.ref a0, .int x1, .int x2] S Q := by
  refine q_Mi.of (cc := cX8_unmark) (nL := 5) (rt := .int) (by decide +kernel) rfl (Nat.le_of_ble_eq_true rfl) rfl ?_
  intro p e s m args below meth c ls A C hr hnm hp hl
  have C : q_X p s m args meth c cX8_unmark 5 RX8 wsX8_unmark D g A := C
  have hx := C.1
  have hb := C.2.1
  have hl : q_l ls 5 [(0, .ref a0), (1, .int x1), (2, .int x2)] := hl
  have j49 : ∀ (a0 : Nat) (x3 : Int32) (y0 : Int32) (S : q_S) (H : Heap) (locs : List Loc) (ls : Array Slot), wX8_unmark_b49 Q a0 x3 y0 S → q_P D g A s.heap S H locs → q_l ls 5 [(0, .ref a0), (3, .int x3)] → W p l e rmX8_unmark s m args below meth c H locs 0 0 (MQ below (va_Qi Q (q_B D g A) A) args s rmX8_unmark.cells rmX8_unmark.slots A) (F0 m 49 ls [.int y0]) := by
    intro a0 x3 y0 S H locs ls h hp hl
    unfold wX8_unmark_b49 at h
    refine q_ist (lv' := [(4, .int y0), (0, .ref a0), (3, .int x3)]) hx hb dX8_unmark_49 hl (by decide) rfl (fun ls hl => ?_)
    refine lv_aload_n hx hb dX8_unmark_51 rfl (q_at hl 1 rfl) ?_
    refine q_rGR C hp h rfl iX8_unmark_X8 (by decide) kX8_unmark_25 dX8_unmark_52 (fun r_1 h => ?_)
    refine lv_iload_n hx hb dX8_unmark_55 rfl (q_at hl 2 rfl) ?_
    refine lv_iconst (v := 0) hx hb dX8_unmark_56 (by decide) ?_
    refine q_rSZ C hp h dX8_unmark_57 (fun S_2 H locs h hp => ?_)
    refine lv_iload hx hb dX8_unmark_58 (q_at hl 0 rfl) ?_
    exact q_iret C hp hr h dX8_unmark_60
  unfold wX8_unmark at h
  replace h := h.2
  refine lv_aload_n hx hb dX8_unmark_0 rfl (q_at hl 0 rfl) ?_
  refine lv_iload_n hx hb dX8_unmark_1 rfl (q_at hl 1 rfl) ?_
  refine q_finI0 C hp (q_runV (As := [.int x1]) (rest := []) C hp (RX8_isBar l D g _ a0 x1 _ h _) (cwV 1 C.2.2.2.2.1 gX8_unmark_X8_isBar rfl rfl rfl (by decide +kernel) ⟨(Nat.le_of_ble_eq_true rfl), (Nat.le_of_ble_eq_true rfl)⟩) h.1 rfl rfl hl.1.1 rfl (Nat.le_of_ble_eq_true rfl) dX8_unmark_2 ⟨(Nat.le_of_ble_eq_true rfl), (Nat.le_of_ble_eq_true rfl)⟩) rfl rfl (fun v_4 S_3 H locs h hp => ?_)
  refine lv_if_ne (tgt := 11) hx hb dX8_unmark_5 (by decide) (fun c_5 => ?_) (fun c_5 => ?_)
  · replace h := h.1 c_5
    refine lv_iload_n hx hb dX8_unmark_11 rfl (q_at hl 2 rfl) ?_
    refine lv_iconst (v := 0) hx hb dX8_unmark_12 (by decide) ?_
    refine lv_iconst (v := 4) hx hb dX8_unmark_13 (by decide) ?_
    refine q_finI0 C hp (q_runS (As := [.int x2, .int (0 : Int32), .int (4 : Int32)]) (rest := []) C hp (RX8_in l D g _ x2 (0 : Int32) (4 : Int32) _ h _) (va_cwS 3 C.2.2.2.2.1 gX8_unmark_X8_in rfl rfl rfl (by decide +kernel) ⟨(Nat.le_of_ble_eq_true rfl), (Nat.le_of_ble_eq_true rfl)⟩) rfl hl.1.1 rfl (Nat.le_of_ble_eq_true rfl) dX8_unmark_14 ⟨(Nat.le_of_ble_eq_true rfl), (Nat.le_of_ble_eq_true rfl)⟩) rfl rfl (fun v_7 S_6 H locs h hp => ?_)
    refine lv_if_ne (tgt := 23) hx hb dX8_unmark_17 (by decide) (fun c_8 => ?_) (fun c_8 => ?_)
    · replace h := h.1 c_8
      refine lv_iconst (v := 5) hx hb dX8_unmark_23 (by decide) ?_
      refine lv_iload_n hx hb dX8_unmark_24 rfl (q_at hl 1 rfl) ?_
      refine lv_imul hx hb dX8_unmark_25 ?_
      refine lv_iload_n hx hb dX8_unmark_26 rfl (q_at hl 2 rfl) ?_
      refine lv_iadd hx hb dX8_unmark_27 ?_
      refine q_istn (lv' := [(3, .int (((5 : Int32) * x1) + x2)), (0, .ref a0), (1, .int x1), (2, .int x2)]) hx hb dX8_unmark_28 rfl hl (by decide) rfl (fun ls hl => ?_)
      refine lv_aload_n hx hb dX8_unmark_29 rfl (q_at hl 1 rfl) ?_
      refine q_rGR C hp h rfl iX8_unmark_X8 (by decide) kX8_unmark_25 dX8_unmark_30 (fun r_9 h => ?_)
      refine lv_iload_n hx hb dX8_unmark_33 rfl (q_at hl 0 rfl) ?_
      refine q_rLZ C hp h dX8_unmark_34 (fun v_10 h => ?_)
      refine lv_if_eq (tgt := 47) hx hb dX8_unmark_35 (by decide) (fun c_11 => ?_) (fun c_11 => ?_)
      · replace h := h.1 c_11
        refine lv_bipush (v := (-100)) hx hb dX8_unmark_47 (by decide) ?_
        exact j49 a0 (((5 : Int32) * x1) + x2) (-100 : Int32) _ _ _ _ h hp (q_sub hl [1, 0] rfl)
      · replace h := h.2 c_11
        refine lv_aload_n hx hb dX8_unmark_38 rfl (q_at hl 1 rfl) ?_
        refine q_rGR C hp h rfl iX8_unmark_X8 (by decide) kX8_unmark_29 dX8_unmark_39 (fun r_12 h => ?_)
        refine lv_iload_n hx hb dX8_unmark_42 rfl (q_at hl 0 rfl) ?_
        refine q_rLI C hp h dX8_unmark_43 (fun v_13 h => ?_)
        refine lv_goto (tgt := 49) hx hb dX8_unmark_44 (by decide) ?_
        exact j49 a0 (((5 : Int32) * x1) + x2) v_13 _ _ _ _ h hp (q_sub hl [1, 0] rfl)
    · replace h := h.2 c_8
      refine lv_bipush (v := (-102)) hx hb dX8_unmark_20 (by decide) ?_
      exact q_iret C hp hr h dX8_unmark_22
  · replace h := h.2 c_5
    refine lv_bipush (v := (-101)) hx hb dX8_unmark_8 (by decide) ?_
    exact q_iret C hp hr h dX8_unmark_10
theorem kX8_instrument_32 : Cond.fieldLink RX8 32 (TX8 9).1 (TX8 9).2.1 (TX8 9).2.2.1 ∈ wsX8_instrument := by decide +kernel
theorem kX8_instrument_35 : Cond.fieldLink RX8 35 (TX8 10).1 (TX8 10).2.1 (TX8 10).2.2.1 ∈ wsX8_instrument := by decide +kernel
theorem iX8_instrument_X8 : ∀ w ∈ u_ws RX8 TX8 36, w ∈ wsX8_instrument := by decide +kernel
set_option maxHeartbeats 4000000 in
set_option maxRecDepth 100000 in
theorem RX8_instrument (l : Launch) (D : va_G) (g : q_A) (S : q_S) (a0 : Nat) (x1 : Int32) (x2 : Int32) (x3 : Int32) (Q : Int32 → q_S → Prop) (h : wX8_instrument a0 x1 x2 x3 Q S) : q_Mi l yX8_instrument wsX8_instrument rmX8_instrument D g [.ref a0, .int x1, .int x2, .int x3] S Q := by
  refine q_Mi.of (cc := cX8_instrument) (nL := 4) (rt := .int) (by decide +kernel) rfl (Nat.le_of_ble_eq_true rfl) rfl ?_
  intro p e s m args below meth c ls A C hr hnm hp hl
  have C : q_X p s m args meth c cX8_instrument 4 RX8 wsX8_instrument D g A := C
  have hx := C.1
  have hb := C.2.1
  have hl : q_l ls 4 [(0, .ref a0), (1, .int x1), (2, .int x2), (3, .int x3)] := hl
  unfold wX8_instrument at h
  replace h := h.2
  refine lv_aload_n hx hb dX8_instrument_0 rfl (q_at hl 0 rfl) ?_
  refine lv_iload_n hx hb dX8_instrument_1 rfl (q_at hl 1 rfl) ?_
  refine q_finI0 C hp (q_runV (As := [.int x1]) (rest := []) C hp (RX8_isVoice l D g _ a0 x1 _ h _) (cwV 1 C.2.2.2.2.1 gX8_instrument_X8_isVoice rfl rfl rfl (by decide +kernel) ⟨(Nat.le_of_ble_eq_true rfl), (Nat.le_of_ble_eq_true rfl)⟩) h.1 rfl rfl hl.1.1 rfl (Nat.le_of_ble_eq_true rfl) dX8_instrument_2 ⟨(Nat.le_of_ble_eq_true rfl), (Nat.le_of_ble_eq_true rfl)⟩) rfl rfl (fun v_2 S_1 H locs h hp => ?_)
  refine lv_if_ne (tgt := 11) hx hb dX8_instrument_5 (by decide) (fun c_3 => ?_) (fun c_3 => ?_)
  · replace h := h.1 c_3
    refine lv_iload_n hx hb dX8_instrument_11 rfl (q_at hl 2 rfl) ?_
    refine lv_bipush (v := (-6)) hx hb dX8_instrument_12 (by decide) ?_
    refine lv_bipush (v := 6) hx hb dX8_instrument_14 (by decide) ?_
    refine q_finI0 C hp (q_runS (As := [.int x2, .int (-6 : Int32), .int (6 : Int32)]) (rest := []) C hp (RX8_in l D g _ x2 (-6 : Int32) (6 : Int32) _ h _) (va_cwS 3 C.2.2.2.2.1 gX8_instrument_X8_in rfl rfl rfl (by decide +kernel) ⟨(Nat.le_of_ble_eq_true rfl), (Nat.le_of_ble_eq_true rfl)⟩) rfl hl.1.1 rfl (Nat.le_of_ble_eq_true rfl) dX8_instrument_16 ⟨(Nat.le_of_ble_eq_true rfl), (Nat.le_of_ble_eq_true rfl)⟩) rfl rfl (fun v_5 S_4 H locs h hp => ?_)
    refine lv_if_eq (tgt := 32) hx hb dX8_instrument_19 (by decide) (fun c_6 => ?_) (fun c_6 => ?_)
    · replace h := h.1 c_6
      refine lv_bipush (v := (-102)) hx hb dX8_instrument_32 (by decide) ?_
      exact q_iret C hp hr h dX8_instrument_34
    · replace h := h.2 c_6
      refine lv_iload_n hx hb dX8_instrument_22 rfl (q_at hl 3 rfl) ?_
      refine lv_bipush (v := (-2)) hx hb dX8_instrument_23 (by decide) ?_
      refine lv_iconst (v := 2) hx hb dX8_instrument_25 (by decide) ?_
      refine q_finI0 C hp (q_runS (As := [.int x3, .int (-2 : Int32), .int (2 : Int32)]) (rest := []) C hp (RX8_in l D g _ x3 (-2 : Int32) (2 : Int32) _ h _) (va_cwS 3 C.2.2.2.2.1 gX8_instrument_X8_in rfl rfl rfl (by decide +kernel) ⟨(Nat.le_of_ble_eq_true rfl), (Nat.le_of_ble_eq_true rfl)⟩) rfl hl.1.1 rfl (Nat.le_of_ble_eq_true rfl) dX8_instrument_26 ⟨(Nat.le_of_ble_eq_true rfl), (Nat.le_of_ble_eq_true rfl)⟩) rfl rfl (fun v_8 S_7 H locs h hp => ?_)
      refine lv_if_ne (tgt := 35) hx hb dX8_instrument_29 (by decide) (fun c_9 => ?_) (fun c_9 => ?_)
      · replace h := h.1 c_9
        refine lv_aload_n hx hb dX8_instrument_35 rfl (q_at hl 0 rfl) ?_
        refine q_rGR C hp h rfl iX8_instrument_X8 (by decide) kX8_instrument_32 dX8_instrument_36 (fun r_10 h => ?_)
        refine lv_iload_n hx hb dX8_instrument_39 rfl (q_at hl 1 rfl) ?_
        refine lv_iload_n hx hb dX8_instrument_40 rfl (q_at hl 2 rfl) ?_
        refine q_rSI C hp h dX8_instrument_41 (fun S_11 H locs h hp => ?_)
        refine lv_aload_n hx hb dX8_instrument_42 rfl (q_at hl 0 rfl) ?_
        refine q_rGR C hp h rfl iX8_instrument_X8 (by decide) kX8_instrument_35 dX8_instrument_43 (fun r_12 h => ?_)
        refine lv_iload_n hx hb dX8_instrument_46 rfl (q_at hl 1 rfl) ?_
        refine lv_iload_n hx hb dX8_instrument_47 rfl (q_at hl 3 rfl) ?_
        refine q_rSI C hp h dX8_instrument_48 (fun S_13 H locs h hp => ?_)
        refine lv_iconst (v := 1) hx hb dX8_instrument_49 (by decide) ?_
        exact q_iret C hp hr h dX8_instrument_50
      · replace h := h.2 c_9
        refine lv_bipush (v := (-102)) hx hb dX8_instrument_32 (by decide) ?_
        exact q_iret C hp hr h dX8_instrument_34
  · replace h := h.2 c_3
    refine lv_bipush (v := (-101)) hx hb dX8_instrument_8 (by decide) ?_
    exact q_iret C hp hr h dX8_instrument_10
theorem kX8_cueing_38 : Cond.fieldLink RX8 38 (TX8 11).1 (TX8 11).2.1 (TX8 11).2.2.1 ∈ wsX8_cueing := by decide +kernel
theorem iX8_cueing_X8 : ∀ w ∈ u_ws RX8 TX8 36, w ∈ wsX8_cueing := by decide +kernel
set_option maxHeartbeats 4000000 in
set_option maxRecDepth 100000 in
theorem RX8_cueing (l : Launch) (D : va_G) (g : q_A) (S : q_S) (a0 : Nat) (x1 : Int32) (Q : Int32 → q_S → Prop) (h : wX8_cueing a0 x1 Q S) : q_Mi l yX8_cueing wsX8_cueing rmX8_cueing D g [.ref a0, .int x1] S Q := by
  refine q_Mi.of (cc := cX8_cueing) (nL := 3) (rt := .int) (by decide +kernel) rfl (Nat.le_of_ble_eq_true rfl) rfl ?_
  intro p e s m args below meth c ls A C hr hnm hp hl
  have C : q_X p s m args meth c cX8_cueing 3 RX8 wsX8_cueing D g A := C
  have hx := C.1
  have hb := C.2.1
  have hl : q_l ls 3 [(0, .ref a0), (1, .int x1)] := hl
  unfold wX8_cueing at h
  replace h := h.2
  refine lv_iload_n hx hb dX8_cueing_0 rfl (q_at hl 1 rfl) ?_
  refine lv_iconst (v := 1) hx hb dX8_cueing_1 (by decide) ?_
  refine lv_bipush (v := 40) hx hb dX8_cueing_2 (by decide) ?_
  refine q_finI0 C hp (q_runS (As := [.int x1, .int (1 : Int32), .int (40 : Int32)]) (rest := []) C hp (RX8_in l D g _ x1 (1 : Int32) (40 : Int32) _ h _) (va_cwS 3 C.2.2.2.2.1 gX8_cueing_X8_in rfl rfl rfl (by decide +kernel) ⟨(Nat.le_of_ble_eq_true rfl), (Nat.le_of_ble_eq_true rfl)⟩) rfl hl.1.1 rfl (Nat.le_of_ble_eq_true rfl) dX8_cueing_4 ⟨(Nat.le_of_ble_eq_true rfl), (Nat.le_of_ble_eq_true rfl)⟩) rfl rfl (fun v_2 S_1 H locs h hp => ?_)
  refine lv_if_ne (tgt := 13) hx hb dX8_cueing_7 (by decide) (fun c_3 => ?_) (fun c_3 => ?_)
  · replace h := h.1 c_3
    refine lv_aload_n hx hb dX8_cueing_13 rfl (q_at hl 0 rfl) ?_
    refine q_rGI C hp h rfl iX8_cueing_X8 (by decide) kX8_cueing_38 dX8_cueing_14 (fun v_4 h => ?_)
    refine q_istn (lv' := [(2, .int v_4), (0, .ref a0), (1, .int x1)]) hx hb dX8_cueing_17 rfl hl (by decide) rfl (fun ls hl => ?_)
    refine lv_aload_n hx hb dX8_cueing_18 rfl (q_at hl 1 rfl) ?_
    refine lv_iload_n hx hb dX8_cueing_19 rfl (q_at hl 2 rfl) ?_
    refine q_rP C hp h tyX8 tyX8_ok nmX8 rfl iX8_cueing_X8 (by decide) kX8_cueing_38 rfl rfl rfl rfl dX8_cueing_20 (fun S_5 H locs h hp => ?_)
    refine lv_iload_n hx hb dX8_cueing_23 rfl (q_at hl 0 rfl) ?_
    exact q_iret C hp hr h dX8_cueing_24
  · replace h := h.2 c_3
    refine lv_bipush (v := (-102)) hx hb dX8_cueing_10 (by decide) ?_
    exact q_iret C hp hr h dX8_cueing_12
theorem kX8_isEmpty_7 : Cond.fieldLink RX8 7 (TX8 2).1 (TX8 2).2.1 (TX8 2).2.2.1 ∈ wsX8_isEmpty := by decide +kernel
theorem iX8_isEmpty_X8 : ∀ w ∈ u_ws RX8 TX8 36, w ∈ wsX8_isEmpty := by decide +kernel
set_option maxHeartbeats 4000000 in
set_option maxRecDepth 100000 in
theorem RX8_isEmpty (l : Launch) (D : va_G) (g : q_A) (S : q_S) (a0 : Nat) (x1 : Int32) (x2 : Int32) (Q : Int32 → q_S → Prop) (h : wX8_isEmpty a0 x1 x2 Q S) : q_Mi l yX8_isEmpty wsX8_isEmpty rmX8_isEmpty D g [.ref a0, .int x1, .int x2] S Q := by
  refine q_Mi.of (cc := cX8_isEmpty) (nL := 3) (rt := .boolean) (by decide +kernel) rfl (Nat.le_of_ble_eq_true rfl) rfl ?_
  intro p e s m args below meth c ls A C hr hnm hp hl
  have C : q_X p s m args meth c cX8_isEmpty 3 RX8 wsX8_isEmpty D g A := C
  have hx := C.1
  have hb := C.2.1
  have hl : q_l ls 3 [(0, .ref a0), (1, .int x1), (2, .int x2)] := hl
  unfold wX8_isEmpty at h
  replace h := h.2
  refine lv_aload_n hx hb dX8_isEmpty_0 rfl (q_at hl 0 rfl) ?_
  refine q_rGR C hp h rfl iX8_isEmpty_X8 (by decide) kX8_isEmpty_7 dX8_isEmpty_1 (fun r_1 h => ?_)
  refine lv_bipush (v := 40) hx hb dX8_isEmpty_4 (by decide) ?_
  refine lv_iload_n hx hb dX8_isEmpty_6 rfl (q_at hl 1 rfl) ?_
  refine lv_imul hx hb dX8_isEmpty_7 ?_
  refine lv_iload_n hx hb dX8_isEmpty_8 rfl (q_at hl 2 rfl) ?_
  refine lv_iadd hx hb dX8_isEmpty_9 ?_
  refine q_rLI C hp h dX8_isEmpty_10 (fun v_2 h => ?_)
  refine lv_if_ne (tgt := 18) hx hb dX8_isEmpty_11 (by decide) (fun c_3 => ?_) (fun c_3 => ?_)
  · replace h := h.1 c_3
    refine lv_iconst (v := 0) hx hb dX8_isEmpty_18 (by decide) ?_
    exact q_zret C hp hr h dX8_isEmpty_19
  · replace h := h.2 c_3
    refine lv_iconst (v := 1) hx hb dX8_isEmpty_14 (by decide) ?_
    refine lv_goto (tgt := 19) hx hb dX8_isEmpty_15 (by decide) ?_
    exact q_zret C hp hr h dX8_isEmpty_19
theorem kX8_isNeeded_25 : Cond.fieldLink RX8 25 (TX8 7).1 (TX8 7).2.1 (TX8 7).2.2.1 ∈ wsX8_isNeeded := by decide +kernel
theorem iX8_isNeeded_X8 : ∀ w ∈ u_ws RX8 TX8 36, w ∈ wsX8_isNeeded := by decide +kernel
set_option maxHeartbeats 4000000 in
set_option maxRecDepth 100000 in
theorem RX8_isNeeded (l : Launch) (D : va_G) (g : q_A) (S : q_S) (a0 : Nat) (x1 : Int32) (Q : Int32 → q_S → Prop) (h : wX8_isNeeded a0 x1 Q S) : q_Mi l yX8_isNeeded wsX8_isNeeded rmX8_isNeeded D g [.ref a0, .int x1] S Q := by
  refine q_Mi.of (cc := cX8_isNeeded) (nL := 2) (rt := .boolean) (by decide +kernel) rfl (Nat.le_of_ble_eq_true rfl) rfl ?_
  intro p e s m args below meth c ls A C hr hnm hp hl
  have C : q_X p s m args meth c cX8_isNeeded 2 RX8 wsX8_isNeeded D g A := C
  have hx := C.1
  have hb := C.2.1
  have hl : q_l ls 2 [(0, .ref a0), (1, .int x1)] := hl
  have j50 : ∀ (S : q_S) (H : Heap) (locs : List Loc) (ls : Array Slot), wX8_isNeeded_b50 Q S → q_P D g A s.heap S H locs → q_l ls 2 [] → W p l e rmX8_isNeeded s m args below meth c H locs 0 0 (MQ below (va_Qi Q (q_B D g A) A) args s rmX8_isNeeded.cells rmX8_isNeeded.slots A) (F0 m 50 ls []) := by
    intro S H locs ls h hp hl
    unfold wX8_isNeeded_b50 at h
    refine lv_iconst (v := 1) hx hb dX8_isNeeded_50 (by decide) ?_
    refine lv_goto (tgt := 55) hx hb dX8_isNeeded_51 (by decide) ?_
    exact q_zret C hp hr h dX8_isNeeded_55
  unfold wX8_isNeeded at h
  replace h := h.2
  refine lv_aload_n hx hb dX8_isNeeded_0 rfl (q_at hl 0 rfl) ?_
  refine q_rGR C hp h rfl iX8_isNeeded_X8 (by decide) kX8_isNeeded_25 dX8_isNeeded_1 (fun r_1 h => ?_)
  refine lv_iconst (v := 5) hx hb dX8_isNeeded_4 (by decide) ?_
  refine lv_iload_n hx hb dX8_isNeeded_5 rfl (q_at hl 1 rfl) ?_
  refine lv_imul hx hb dX8_isNeeded_6 ?_
  refine q_rLZ C hp h dX8_isNeeded_7 (fun v_2 h => ?_)
  refine lv_if_ne (tgt := 50) hx hb dX8_isNeeded_8 (by decide) (fun c_3 => ?_) (fun c_3 => ?_)
  · replace h := h.1 c_3
    exact j50 _ _ _ _ h hp (q_sub hl [] rfl)
  · replace h := h.2 c_3
    refine lv_aload_n hx hb dX8_isNeeded_11 rfl (q_at hl 0 rfl) ?_
    refine q_rGR C hp h rfl iX8_isNeeded_X8 (by decide) kX8_isNeeded_25 dX8_isNeeded_12 (fun r_4 h => ?_)
    refine lv_iconst (v := 5) hx hb dX8_isNeeded_15 (by decide) ?_
    refine lv_iload_n hx hb dX8_isNeeded_16 rfl (q_at hl 1 rfl) ?_
    refine lv_imul hx hb dX8_isNeeded_17 ?_
    refine lv_iconst (v := 1) hx hb dX8_isNeeded_18 (by decide) ?_
    refine lv_iadd hx hb dX8_isNeeded_19 ?_
    refine q_rLZ C hp h dX8_isNeeded_20 (fun v_5 h => ?_)
    refine lv_if_ne (tgt := 50) hx hb dX8_isNeeded_21 (by decide) (fun c_6 => ?_) (fun c_6 => ?_)
    · replace h := h.1 c_6
      exact j50 _ _ _ _ h hp (q_sub hl [] rfl)
    · replace h := h.2 c_6
      refine lv_aload_n hx hb dX8_isNeeded_24 rfl (q_at hl 0 rfl) ?_
      refine q_rGR C hp h rfl iX8_isNeeded_X8 (by decide) kX8_isNeeded_25 dX8_isNeeded_25 (fun r_7 h => ?_)
      refine lv_iconst (v := 5) hx hb dX8_isNeeded_28 (by decide) ?_
      refine lv_iload_n hx hb dX8_isNeeded_29 rfl (q_at hl 1 rfl) ?_
      refine lv_imul hx hb dX8_isNeeded_30 ?_
      refine lv_iconst (v := 2) hx hb dX8_isNeeded_31 (by decide) ?_
      refine lv_iadd hx hb dX8_isNeeded_32 ?_
      refine q_rLZ C hp h dX8_isNeeded_33 (fun v_8 h => ?_)
      refine lv_if_ne (tgt := 50) hx hb dX8_isNeeded_34 (by decide) (fun c_9 => ?_) (fun c_9 => ?_)
      · replace h := h.1 c_9
        exact j50 _ _ _ _ h hp (q_sub hl [] rfl)
      · replace h := h.2 c_9
        refine lv_aload_n hx hb dX8_isNeeded_37 rfl (q_at hl 0 rfl) ?_
        refine q_rGR C hp h rfl iX8_isNeeded_X8 (by decide) kX8_isNeeded_25 dX8_isNeeded_38 (fun r_10 h => ?_)
        refine lv_iconst (v := 5) hx hb dX8_isNeeded_41 (by decide) ?_
        refine lv_iload_n hx hb dX8_isNeeded_42 rfl (q_at hl 1 rfl) ?_
        refine lv_imul hx hb dX8_isNeeded_43 ?_
        refine lv_iconst (v := 3) hx hb dX8_isNeeded_44 (by decide) ?_
        refine lv_iadd hx hb dX8_isNeeded_45 ?_
        refine q_rLZ C hp h dX8_isNeeded_46 (fun v_11 h => ?_)
        refine lv_if_eq (tgt := 54) hx hb dX8_isNeeded_47 (by decide) (fun c_12 => ?_) (fun c_12 => ?_)
        · replace h := h.1 c_12
          refine lv_iconst (v := 0) hx hb dX8_isNeeded_54 (by decide) ?_
          exact q_zret C hp hr h dX8_isNeeded_55
        · replace h := h.2 c_12
          exact j50 _ _ _ _ h hp (q_sub hl [] rfl)
theorem kX8_keyAt_25 : Cond.fieldLink RX8 25 (TX8 7).1 (TX8 7).2.1 (TX8 7).2.2.1 ∈ wsX8_keyAt := by decide +kernel
theorem kX8_keyAt_29 : Cond.fieldLink RX8 29 (TX8 8).1 (TX8 8).2.1 (TX8 8).2.2.1 ∈ wsX8_keyAt := by decide +kernel
theorem iX8_keyAt_X8 : ∀ w ∈ u_ws RX8 TX8 36, w ∈ wsX8_keyAt := by decide +kernel
set_option maxHeartbeats 4000000 in
set_option maxRecDepth 100000 in
theorem RX8_keyAt (l : Launch) (D : va_G) (g : q_A) (S : q_S) (a0 : Nat) (x1 : Int32) (Q : Int32 → q_S → Prop) (h : wX8_keyAt a0 x1 Q S) : q_Mi l yX8_keyAt wsX8_keyAt rmX8_keyAt D g [.ref a0, .int x1] S Q := by
  refine q_Mi.of (cc := cX8_keyAt) (nL := 4) (rt := .int) (by decide +kernel) rfl (Nat.le_of_ble_eq_true rfl) rfl ?_
  intro p e s m args below meth c ls A C hr hnm hp hl
  have C : q_X p s m args meth c cX8_keyAt 4 RX8 wsX8_keyAt D g A := C
  have hx := C.1
  have hb := C.2.1
  have hl : q_l ls 4 [(0, .ref a0), (1, .int x1)] := hl
  have j32 : ∀ (k4 : Nat → Int32 → Int32 → Int32 → q_S → Prop) (ih4 : ∀ (a0 : Nat) (x1 : Int32) (x2 : Int32) (x3 : Int32) (S : q_S) (H : Heap) (locs : List Loc) (ls : Array Slot), k4 a0 x1 x2 x3 S → q_P D g A s.heap S H locs → q_l ls 4 [(0, .ref a0), (1, .int x1), (2, .int x2), (3, .int x3)] → W p l e rmX8_keyAt s m args below meth c H locs 0 0 (MQ below (va_Qi Q (q_B D g A) A) args s rmX8_keyAt.cells rmX8_keyAt.slots A) (F0 m 4 ls [])) (a0 : Nat) (x1 : Int32) (x3 : Int32) (y0 : Int32) (S : q_S) (H : Heap) (locs : List Loc) (ls : Array Slot), wX8_keyAt_b32 Q k4 a0 x1 x3 y0 S → q_P D g A s.heap S H locs → q_l ls 4 [(0, .ref a0), (1, .int x1), (3, .int x3)] → W p l e rmX8_keyAt s m args below meth c H locs 0 0 (MQ below (va_Qi Q (q_B D g A) A) args s rmX8_keyAt.cells rmX8_keyAt.slots A) (F0 m 32 ls [.int y0]) := by
    intro k4 ih4 a0 x1 x3 y0 S H locs ls h hp hl
    unfold wX8_keyAt_b32 at h
    refine q_istn (lv' := [(2, .int y0), (0, .ref a0), (1, .int x1), (3, .int x3)]) hx hb dX8_keyAt_32 rfl hl (by decide) rfl (fun ls hl => ?_)
    refine q_inc (x := x3) (v := (x3 + (1 : Int32))) (lv' := [(3, .int (x3 + (1 : Int32))), (2, .int y0), (0, .ref a0), (1, .int x1)]) hx hb dX8_keyAt_33 hl (k := 3) rfl rfl (by decide) rfl (fun ls hl => ?_)
    refine lv_goto (tgt := 4) hx hb dX8_keyAt_36 (by decide) ?_
    exact ih4 a0 x1 y0 (x3 + (1 : Int32)) _ _ _ _ h hp (q_sub hl [2, 3, 1, 0] rfl)
  have j4 : ∀ (n : Nat), ∀ (a0 : Nat) (x1 : Int32) (x2 : Int32) (x3 : Int32) (S : q_S) (H : Heap) (locs : List Loc) (ls : Array Slot), lX8_keyAt_b4 Q n a0 x1 x2 x3 S → q_P D g A s.heap S H locs → q_l ls 4 [(0, .ref a0), (1, .int x1), (2, .int x2), (3, .int x3)] → W p l e rmX8_keyAt s m args below meth c H locs 0 0 (MQ below (va_Qi Q (q_B D g A) A) args s rmX8_keyAt.cells rmX8_keyAt.slots A) (F0 m 4 ls []) := by
    intro n
    induction n with
    | zero => intro a0 x1 x2 x3 S H locs ls h; exact absurd h (fun h => h)
    | succ n ih4 =>
      intro a0 x1 x2 x3 S H locs ls h hp hl
      have h : wX8_keyAt_b4 Q (lX8_keyAt_b4 Q n) a0 x1 x2 x3 S := h
      unfold wX8_keyAt_b4 at h
      refine lv_iload_n hx hb dX8_keyAt_4 rfl (q_at hl 3 rfl) ?_
      refine lv_iload_n hx hb dX8_keyAt_5 rfl (q_at hl 1 rfl) ?_
      refine lv_icmp_gt (tgt := 39) hx hb dX8_keyAt_6 (by decide) (fun c_1 => ?_) (fun c_1 => ?_)
      · replace h := h.1 c_1
        refine lv_iload_n hx hb dX8_keyAt_39 rfl (q_at hl 2 rfl) ?_
        exact q_iret C hp hr h dX8_keyAt_40
      · replace h := h.2 c_1
        refine lv_aload_n hx hb dX8_keyAt_9 rfl (q_at hl 0 rfl) ?_
        refine q_rGR C hp h rfl iX8_keyAt_X8 (by decide) kX8_keyAt_25 dX8_keyAt_10 (fun r_2 h => ?_)
        refine lv_iconst (v := 5) hx hb dX8_keyAt_13 (by decide) ?_
        refine lv_iload_n hx hb dX8_keyAt_14 rfl (q_at hl 3 rfl) ?_
        refine lv_imul hx hb dX8_keyAt_15 ?_
        refine q_rLZ C hp h dX8_keyAt_16 (fun v_3 h => ?_)
        refine lv_if_eq (tgt := 31) hx hb dX8_keyAt_17 (by decide) (fun c_4 => ?_) (fun c_4 => ?_)
        · replace h := h.1 c_4
          refine lv_iload_n hx hb dX8_keyAt_31 rfl (q_at hl 2 rfl) ?_
          exact j32 (lX8_keyAt_b4 Q n) ih4 a0 x1 x3 x2 _ _ _ _ h hp (q_sub hl [0, 1, 3] rfl)
        · replace h := h.2 c_4
          refine lv_aload_n hx hb dX8_keyAt_20 rfl (q_at hl 0 rfl) ?_
          refine q_rGR C hp h rfl iX8_keyAt_X8 (by decide) kX8_keyAt_29 dX8_keyAt_21 (fun r_5 h => ?_)
          refine lv_iconst (v := 5) hx hb dX8_keyAt_24 (by decide) ?_
          refine lv_iload_n hx hb dX8_keyAt_25 rfl (q_at hl 3 rfl) ?_
          refine lv_imul hx hb dX8_keyAt_26 ?_
          refine q_rLI C hp h dX8_keyAt_27 (fun v_6 h => ?_)
          refine lv_goto (tgt := 32) hx hb dX8_keyAt_28 (by decide) ?_
          exact j32 (lX8_keyAt_b4 Q n) ih4 a0 x1 x3 v_6 _ _ _ _ h hp (q_sub hl [0, 1, 3] rfl)
  unfold wX8_keyAt at h
  replace h := h.2
  refine lv_iconst (v := 0) hx hb dX8_keyAt_0 (by decide) ?_
  refine q_istn (lv' := [(2, .int (0 : Int32)), (0, .ref a0), (1, .int x1)]) hx hb dX8_keyAt_1 rfl hl (by decide) rfl (fun ls hl => ?_)
  refine lv_iconst (v := 0) hx hb dX8_keyAt_2 (by decide) ?_
  refine q_istn (lv' := [(3, .int (0 : Int32)), (2, .int (0 : Int32)), (0, .ref a0), (1, .int x1)]) hx hb dX8_keyAt_3 rfl hl (by decide) rfl (fun ls hl => ?_)
  exact j4 q_fuel a0 x1 (0 : Int32) (0 : Int32) _ _ _ _ h hp (q_sub hl [2, 3, 1, 0] rfl)
theorem kX8_turnOf_32 : Cond.fieldLink RX8 32 (TX8 9).1 (TX8 9).2.1 (TX8 9).2.2.1 ∈ wsX8_turnOf := by decide +kernel
theorem iX8_turnOf_X8 : ∀ w ∈ u_ws RX8 TX8 36, w ∈ wsX8_turnOf := by decide +kernel
set_option maxHeartbeats 4000000 in
set_option maxRecDepth 100000 in
theorem RX8_turnOf (l : Launch) (D : va_G) (g : q_A) (S : q_S) (a0 : Nat) (x1 : Int32) (x2 : Int32) (Q : Int32 → q_S → Prop) (h : wX8_turnOf a0 x1 x2 Q S) : q_Mi l yX8_turnOf wsX8_turnOf rmX8_turnOf D g [.ref a0, .int x1, .int x2] S Q := by
  refine q_Mi.of (cc := cX8_turnOf) (nL := 4) (rt := .int) (by decide +kernel) rfl (Nat.le_of_ble_eq_true rfl) rfl ?_
  intro p e s m args below meth c ls A C hr hnm hp hl
  have C : q_X p s m args meth c cX8_turnOf 4 RX8 wsX8_turnOf D g A := C
  have hx := C.1
  have hb := C.2.1
  have hl : q_l ls 4 [(0, .ref a0), (1, .int x1), (2, .int x2)] := hl
  unfold wX8_turnOf at h
  replace h := h.2
  refine lv_aload_n hx hb dX8_turnOf_0 rfl (q_at hl 0 rfl) ?_
  refine lv_iload_n hx hb dX8_turnOf_1 rfl (q_at hl 2 rfl) ?_
  refine q_finI0 C hp (q_runV (As := [.int x2]) (rest := []) C hp (RX8_keyAt l D g _ a0 x2 _ h _) (cwV 1 C.2.2.2.2.1 gX8_turnOf_X8_keyAt rfl rfl rfl (by decide +kernel) ⟨(Nat.le_of_ble_eq_true rfl), (Nat.le_of_ble_eq_true rfl)⟩) h.1 rfl rfl hl.1.1 rfl (Nat.le_of_ble_eq_true rfl) dX8_turnOf_2 ⟨(Nat.le_of_ble_eq_true rfl), (Nat.le_of_ble_eq_true rfl)⟩) rfl rfl (fun v_2 S_1 H locs h hp => ?_)
  refine lv_aload_n hx hb dX8_turnOf_5 rfl (q_at hl 0 rfl) ?_
  refine q_rGR C hp h rfl iX8_turnOf_X8 (by decide) kX8_turnOf_32 dX8_turnOf_6 (fun r_3 h => ?_)
  refine lv_iload_n hx hb dX8_turnOf_9 rfl (q_at hl 1 rfl) ?_
  refine q_rLI C hp h dX8_turnOf_10 (fun v_4 h => ?_)
  refine lv_iadd hx hb dX8_turnOf_11 ?_
  refine q_istn (lv' := [(3, .int (v_2 + v_4)), (0, .ref a0), (1, .int x1), (2, .int x2)]) hx hb dX8_turnOf_12 rfl hl (by decide) rfl (fun ls hl => ?_)
  refine lv_iload_n hx hb dX8_turnOf_13 rfl (q_at hl 0 rfl) ?_
  refine lv_bipush (v := 7) hx hb dX8_turnOf_14 (by decide) ?_
  refine lv_icmp_le (tgt := 24) hx hb dX8_turnOf_16 (by decide) (fun c_5 => ?_) (fun c_5 => ?_)
  · replace h := h.1 c_5
    refine lv_iload_n hx hb dX8_turnOf_24 rfl (q_at hl 0 rfl) ?_
    refine lv_bipush (v := (-7)) hx hb dX8_turnOf_25 (by decide) ?_
    refine lv_icmp_ge (tgt := 35) hx hb dX8_turnOf_27 (by decide) (fun c_6 => ?_) (fun c_6 => ?_)
    · replace h := h.1 c_6
      refine lv_iconst (v := 0) hx hb dX8_turnOf_35 (by decide) ?_
      exact q_iret C hp hr h dX8_turnOf_36
    · replace h := h.2 c_6
      refine lv_bipush (v := 12) hx hb dX8_turnOf_30 (by decide) ?_
      refine lv_goto (tgt := 36) hx hb dX8_turnOf_32 (by decide) ?_
      exact q_iret C hp hr h dX8_turnOf_36
  · replace h := h.2 c_5
    refine lv_bipush (v := (-12)) hx hb dX8_turnOf_19 (by decide) ?_
    refine lv_goto (tgt := 36) hx hb dX8_turnOf_21 (by decide) ?_
    exact q_iret C hp hr h dX8_turnOf_36
theorem kX8_writtenKey_32 : Cond.fieldLink RX8 32 (TX8 9).1 (TX8 9).2.1 (TX8 9).2.2.1 ∈ wsX8_writtenKey := by decide +kernel
theorem iX8_writtenKey_X8 : ∀ w ∈ u_ws RX8 TX8 36, w ∈ wsX8_writtenKey := by decide +kernel
set_option maxHeartbeats 4000000 in
set_option maxRecDepth 100000 in
theorem RX8_writtenKey (l : Launch) (D : va_G) (g : q_A) (S : q_S) (a0 : Nat) (x1 : Int32) (x2 : Int32) (Q : Int32 → q_S → Prop) (h : wX8_writtenKey a0 x1 x2 Q S) : q_Mi l yX8_writtenKey wsX8_writtenKey rmX8_writtenKey D g [.ref a0, .int x1, .int x2] S Q := by
  refine q_Mi.of (cc := cX8_writtenKey) (nL := 3) (rt := .int) (by decide +kernel) rfl (Nat.le_of_ble_eq_true rfl) rfl ?_
  intro p e s m args below meth c ls A C hr hnm hp hl
  have C : q_X p s m args meth c cX8_writtenKey 3 RX8 wsX8_writtenKey D g A := C
  have hx := C.1
  have hb := C.2.1
  have hl : q_l ls 3 [(0, .ref a0), (1, .int x1), (2, .int x2)] := hl
  unfold wX8_writtenKey at h
  replace h := h.2
  refine lv_aload_n hx hb dX8_writtenKey_0 rfl (q_at hl 0 rfl) ?_
  refine lv_iload_n hx hb dX8_writtenKey_1 rfl (q_at hl 2 rfl) ?_
  refine q_finI0 C hp (q_runV (As := [.int x2]) (rest := []) C hp (RX8_keyAt l D g _ a0 x2 _ h _) (cwV 1 C.2.2.2.2.1 gX8_writtenKey_X8_keyAt rfl rfl rfl (by decide +kernel) ⟨(Nat.le_of_ble_eq_true rfl), (Nat.le_of_ble_eq_true rfl)⟩) h.1 rfl rfl hl.1.1 rfl (Nat.le_of_ble_eq_true rfl) dX8_writtenKey_2 ⟨(Nat.le_of_ble_eq_true rfl), (Nat.le_of_ble_eq_true rfl)⟩) rfl rfl (fun v_2 S_1 H locs h hp => ?_)
  refine lv_aload_n hx hb dX8_writtenKey_5 rfl (q_at hl 0 rfl) ?_
  refine q_rGR C hp h rfl iX8_writtenKey_X8 (by decide) kX8_writtenKey_32 dX8_writtenKey_6 (fun r_3 h => ?_)
  refine lv_iload_n hx hb dX8_writtenKey_9 rfl (q_at hl 1 rfl) ?_
  refine q_rLI C hp h dX8_writtenKey_10 (fun v_4 h => ?_)
  refine lv_iadd hx hb dX8_writtenKey_11 ?_
  refine lv_aload_n hx hb dX8_writtenKey_12 rfl (q_at hl 0 rfl) ?_
  refine lv_iload_n hx hb dX8_writtenKey_13 rfl (q_at hl 1 rfl) ?_
  refine lv_iload_n hx hb dX8_writtenKey_14 rfl (q_at hl 2 rfl) ?_
  refine q_finI0 C hp (q_runV (As := [.int x1, .int x2]) (rest := [.int (v_2 + v_4)]) C hp (RX8_turnOf l D g _ a0 x1 x2 _ h _) (cwV 2 C.2.2.2.2.1 gX8_writtenKey_X8_turnOf rfl rfl rfl (by decide +kernel) ⟨(Nat.le_of_ble_eq_true rfl), (Nat.le_of_ble_eq_true rfl)⟩) h.1 rfl rfl hl.1.1 rfl (Nat.le_of_ble_eq_true rfl) dX8_writtenKey_15 ⟨(Nat.le_of_ble_eq_true rfl), (Nat.le_of_ble_eq_true rfl)⟩) rfl rfl (fun v_6 S_5 H locs h hp => ?_)
  refine lv_iadd hx hb dX8_writtenKey_18 ?_
  exact q_iret C hp hr h dX8_writtenKey_19
theorem kX8_cueOf_7 : Cond.fieldLink RX8 7 (TX8 2).1 (TX8 2).2.1 (TX8 2).2.2.1 ∈ wsX8_cueOf := by decide +kernel
theorem kX8_cueOf_38 : Cond.fieldLink RX8 38 (TX8 11).1 (TX8 11).2.1 (TX8 11).2.2.1 ∈ wsX8_cueOf := by decide +kernel
theorem kX8_cueOf_105 : Cond.fieldLink RX8 105 (TX8 0).1 (TX8 0).2.1 (TX8 0).2.2.1 ∈ wsX8_cueOf := by decide +kernel
theorem kX8_cueOf_112 : Cond.fieldLink RX8 112 (TX8 1).1 (TX8 1).2.1 (TX8 1).2.2.1 ∈ wsX8_cueOf := by decide +kernel
theorem iX8_cueOf_X8 : ∀ w ∈ u_ws RX8 TX8 36, w ∈ wsX8_cueOf := by decide +kernel
set_option maxHeartbeats 4000000 in
set_option maxRecDepth 100000 in
theorem RX8_cueOf (l : Launch) (D : va_G) (g : q_A) (S : q_S) (a0 : Nat) (x1 : Int32) (x2 : Int32) (Q : Int32 → q_S → Prop) (h : wX8_cueOf a0 x1 x2 Q S) : q_Mi l yX8_cueOf wsX8_cueOf rmX8_cueOf D g [.ref a0, .int x1, .int x2] S Q := by
  refine q_Mi.of (cc := cX8_cueOf) (nL := 6) (rt := .int) (by decide +kernel) rfl (Nat.le_of_ble_eq_true rfl) rfl ?_
  intro p e s m args below meth c ls A C hr hnm hp hl
  have C : q_X p s m args meth c cX8_cueOf 6 RX8 wsX8_cueOf D g A := C
  have hx := C.1
  have hb := C.2.1
  have hl : q_l ls 6 [(0, .ref a0), (1, .int x1), (2, .int x2)] := hl
  have j140 : ∀ (k69 : Nat → Int32 → Int32 → Int32 → Int32 → Int32 → q_S → Prop) (ih69 : ∀ (a0 : Nat) (x1 : Int32) (x2 : Int32) (x3 : Int32) (x4 : Int32) (x5 : Int32) (S : q_S) (H : Heap) (locs : List Loc) (ls : Array Slot), k69 a0 x1 x2 x3 x4 x5 S → q_P D g A s.heap S H locs → q_l ls 6 [(0, .ref a0), (1, .int x1), (2, .int x2), (3, .int x3), (4, .int x4), (5, .int x5)] → W p l e rmX8_cueOf s m args below meth c H locs 0 0 (MQ below (va_Qi Q (q_B D g A) A) args s rmX8_cueOf.cells rmX8_cueOf.slots A) (F0 m 69 ls [])) (a0 : Nat) (x1 : Int32) (x2 : Int32) (x3 : Int32) (x4 : Int32) (x5 : Int32) (S : q_S) (H : Heap) (locs : List Loc) (ls : Array Slot), wX8_cueOf_b140 Q k69 a0 x1 x2 x3 x4 x5 S → q_P D g A s.heap S H locs → q_l ls 6 [(0, .ref a0), (1, .int x1), (2, .int x2), (3, .int x3), (4, .int x4), (5, .int x5)] → W p l e rmX8_cueOf s m args below meth c H locs 0 0 (MQ below (va_Qi Q (q_B D g A) A) args s rmX8_cueOf.cells rmX8_cueOf.slots A) (F0 m 140 ls []) := by
    intro k69 ih69 a0 x1 x2 x3 x4 x5 S H locs ls h hp hl
    unfold wX8_cueOf_b140 at h
    refine q_inc (x := x5) (v := (x5 + (1 : Int32))) (lv' := [(5, .int (x5 + (1 : Int32))), (0, .ref a0), (1, .int x1), (2, .int x2), (3, .int x3), (4, .int x4)]) hx hb dX8_cueOf_140 hl (k := 5) rfl rfl (by decide) rfl (fun ls hl => ?_)
    refine lv_goto (tgt := 69) hx hb dX8_cueOf_143 (by decide) ?_
    exact ih69 a0 x1 x2 x3 x4 (x5 + (1 : Int32)) _ _ _ _ h hp (q_sub hl [1, 2, 3, 4, 5, 0] rfl)
  have j136 : ∀ (k69 : Nat → Int32 → Int32 → Int32 → Int32 → Int32 → q_S → Prop) (ih69 : ∀ (a0 : Nat) (x1 : Int32) (x2 : Int32) (x3 : Int32) (x4 : Int32) (x5 : Int32) (S : q_S) (H : Heap) (locs : List Loc) (ls : Array Slot), k69 a0 x1 x2 x3 x4 x5 S → q_P D g A s.heap S H locs → q_l ls 6 [(0, .ref a0), (1, .int x1), (2, .int x2), (3, .int x3), (4, .int x4), (5, .int x5)] → W p l e rmX8_cueOf s m args below meth c H locs 0 0 (MQ below (va_Qi Q (q_B D g A) A) args s rmX8_cueOf.cells rmX8_cueOf.slots A) (F0 m 69 ls [])) (a0 : Nat) (x1 : Int32) (x2 : Int32) (x3 : Int32) (x5 : Int32) (S : q_S) (H : Heap) (locs : List Loc) (ls : Array Slot), wX8_cueOf_b136 Q k69 a0 x1 x2 x3 x5 S → q_P D g A s.heap S H locs → q_l ls 6 [(0, .ref a0), (1, .int x1), (2, .int x2), (3, .int x3), (5, .int x5)] → W p l e rmX8_cueOf s m args below meth c H locs 0 0 (MQ below (va_Qi Q (q_B D g A) A) args s rmX8_cueOf.cells rmX8_cueOf.slots A) (F0 m 136 ls []) := by
    intro k69 ih69 a0 x1 x2 x3 x5 S H locs ls h hp hl
    unfold wX8_cueOf_b136 at h
    refine lv_iload hx hb dX8_cueOf_136 (q_at hl 4 rfl) ?_
    refine q_ist (lv' := [(4, .int x5), (0, .ref a0), (1, .int x1), (2, .int x2), (3, .int x3), (5, .int x5)]) hx hb dX8_cueOf_138 hl (by decide) rfl (fun ls hl => ?_)
    exact j140 k69 ih69 a0 x1 x2 x3 x5 x5 _ _ _ _ h hp (q_sub hl [1, 2, 3, 4, 0, 5] rfl)
  have j69 : ∀ (n : Nat), ∀ (a0 : Nat) (x1 : Int32) (x2 : Int32) (x3 : Int32) (x4 : Int32) (x5 : Int32) (S : q_S) (H : Heap) (locs : List Loc) (ls : Array Slot), lX8_cueOf_b69 Q n a0 x1 x2 x3 x4 x5 S → q_P D g A s.heap S H locs → q_l ls 6 [(0, .ref a0), (1, .int x1), (2, .int x2), (3, .int x3), (4, .int x4), (5, .int x5)] → W p l e rmX8_cueOf s m args below meth c H locs 0 0 (MQ below (va_Qi Q (q_B D g A) A) args s rmX8_cueOf.cells rmX8_cueOf.slots A) (F0 m 69 ls []) := by
    intro n
    induction n with
    | zero => intro a0 x1 x2 x3 x4 x5 S H locs ls h; exact absurd h (fun h => h)
    | succ n ih69 =>
      intro a0 x1 x2 x3 x4 x5 S H locs ls h hp hl
      have h : wX8_cueOf_b69 Q (lX8_cueOf_b69 Q n) a0 x1 x2 x3 x4 x5 S := h
      unfold wX8_cueOf_b69 at h
      refine lv_iload hx hb dX8_cueOf_69 (q_at hl 5 rfl) ?_
      refine lv_aload_n hx hb dX8_cueOf_71 rfl (q_at hl 0 rfl) ?_
      refine q_rGI C hp h rfl iX8_cueOf_X8 (by decide) kX8_cueOf_105 dX8_cueOf_72 (fun v_1 h => ?_)
      refine lv_icmp_ge (tgt := 146) hx hb dX8_cueOf_75 (by decide) (fun c_2 => ?_) (fun c_2 => ?_)
      · replace h := h.1 c_2
        refine lv_iload hx hb dX8_cueOf_146 (q_at hl 4 rfl) ?_
        exact q_iret C hp hr h dX8_cueOf_148
      · replace h := h.2 c_2
        refine lv_iload_n hx hb dX8_cueOf_78 rfl (q_at hl 3 rfl) ?_
        refine lv_aload_n hx hb dX8_cueOf_79 rfl (q_at hl 0 rfl) ?_
        refine q_rGI C hp h rfl iX8_cueOf_X8 (by decide) kX8_cueOf_38 dX8_cueOf_80 (fun v_3 h => ?_)
        refine lv_icmp_lt (tgt := 146) hx hb dX8_cueOf_83 (by decide) (fun c_4 => ?_) (fun c_4 => ?_)
        · replace h := h.1 c_4
          refine lv_iload hx hb dX8_cueOf_146 (q_at hl 4 rfl) ?_
          exact q_iret C hp hr h dX8_cueOf_148
        · replace h := h.2 c_4
          refine lv_iload hx hb dX8_cueOf_86 (q_at hl 5 rfl) ?_
          refine lv_iload_n hx hb dX8_cueOf_88 rfl (q_at hl 1 rfl) ?_
          refine lv_icmp_eq (tgt := 140) hx hb dX8_cueOf_89 (by decide) (fun c_5 => ?_) (fun c_5 => ?_)
          · replace h := h.1 c_5
            exact j140 (lX8_cueOf_b69 Q n) ih69 a0 x1 x2 x3 x4 x5 _ _ _ _ h hp (q_sub hl [0, 1, 2, 3, 4, 5] rfl)
          · replace h := h.2 c_5
            refine lv_aload_n hx hb dX8_cueOf_92 rfl (q_at hl 0 rfl) ?_
            refine lv_iload hx hb dX8_cueOf_93 (q_at hl 5 rfl) ?_
            refine lv_iload_n hx hb dX8_cueOf_95 rfl (q_at hl 2 rfl) ?_
            refine q_finI0 C hp (q_runV (As := [.int x5, .int x2]) (rest := []) C hp (RX8_isEmpty l D g _ a0 x5 x2 _ h _) (cwV 2 C.2.2.2.2.1 gX8_cueOf_X8_isEmpty rfl rfl rfl (by decide +kernel) ⟨(Nat.le_of_ble_eq_true rfl), (Nat.le_of_ble_eq_true rfl)⟩) h.1 rfl rfl hl.1.1 rfl (Nat.le_of_ble_eq_true rfl) dX8_cueOf_96 ⟨(Nat.le_of_ble_eq_true rfl), (Nat.le_of_ble_eq_true rfl)⟩) rfl rfl (fun v_7 S_6 H locs h hp => ?_)
            refine lv_if_ne (tgt := 140) hx hb dX8_cueOf_99 (by decide) (fun c_8 => ?_) (fun c_8 => ?_)
            · replace h := h.1 c_8
              exact j140 (lX8_cueOf_b69 Q n) ih69 a0 x1 x2 x3 x4 x5 _ _ _ _ h hp (q_sub hl [0, 1, 2, 3, 4, 5] rfl)
            · replace h := h.2 c_8
              refine lv_iload hx hb dX8_cueOf_102 (q_at hl 4 rfl) ?_
              refine lv_bipush (v := (-100)) hx hb dX8_cueOf_104 (by decide) ?_
              refine lv_icmp_eq (tgt := 136) hx hb dX8_cueOf_106 (by decide) (fun c_9 => ?_) (fun c_9 => ?_)
              · replace h := h.1 c_9
                exact j136 (lX8_cueOf_b69 Q n) ih69 a0 x1 x2 x3 x5 _ _ _ _ h hp (q_sub hl [0, 1, 2, 3, 5] rfl)
              · replace h := h.2 c_9
                refine lv_aload_n hx hb dX8_cueOf_109 rfl (q_at hl 0 rfl) ?_
                refine q_rGR C hp h rfl iX8_cueOf_X8 (by decide) kX8_cueOf_7 dX8_cueOf_110 (fun r_10 h => ?_)
                refine lv_bipush (v := 40) hx hb dX8_cueOf_113 (by decide) ?_
                refine lv_iload hx hb dX8_cueOf_115 (q_at hl 5 rfl) ?_
                refine lv_imul hx hb dX8_cueOf_117 ?_
                refine lv_iload_n hx hb dX8_cueOf_118 rfl (q_at hl 2 rfl) ?_
                refine lv_iadd hx hb dX8_cueOf_119 ?_
                refine q_rLI C hp h dX8_cueOf_120 (fun v_11 h => ?_)
                refine lv_aload_n hx hb dX8_cueOf_121 rfl (q_at hl 0 rfl) ?_
                refine q_rGR C hp h rfl iX8_cueOf_X8 (by decide) kX8_cueOf_7 dX8_cueOf_122 (fun r_12 h => ?_)
                refine lv_bipush (v := 40) hx hb dX8_cueOf_125 (by decide) ?_
                refine lv_iload hx hb dX8_cueOf_127 (q_at hl 4 rfl) ?_
                refine lv_imul hx hb dX8_cueOf_129 ?_
                refine lv_iload_n hx hb dX8_cueOf_130 rfl (q_at hl 2 rfl) ?_
                refine lv_iadd hx hb dX8_cueOf_131 ?_
                refine q_rLI C hp h dX8_cueOf_132 (fun v_13 h => ?_)
                refine lv_icmp_le (tgt := 140) hx hb dX8_cueOf_133 (by decide) (fun c_14 => ?_) (fun c_14 => ?_)
                · replace h := h.1 c_14
                  exact j140 (lX8_cueOf_b69 Q n) ih69 a0 x1 x2 x3 x4 x5 _ _ _ _ h hp (q_sub hl [0, 1, 2, 3, 4, 5] rfl)
                · replace h := h.2 c_14
                  exact j136 (lX8_cueOf_b69 Q n) ih69 a0 x1 x2 x3 x5 _ _ _ _ h hp (q_sub hl [0, 1, 2, 3, 5] rfl)
  have j62 : ∀ (a0 : Nat) (x1 : Int32) (x2 : Int32) (x3 : Int32) (S : q_S) (H : Heap) (locs : List Loc) (ls : Array Slot), wX8_cueOf_b62 Q a0 x1 x2 x3 S → q_P D g A s.heap S H locs → q_l ls 6 [(0, .ref a0), (1, .int x1), (2, .int x2), (3, .int x3)] → W p l e rmX8_cueOf s m args below meth c H locs 0 0 (MQ below (va_Qi Q (q_B D g A) A) args s rmX8_cueOf.cells rmX8_cueOf.slots A) (F0 m 62 ls []) := by
    intro a0 x1 x2 x3 S H locs ls h hp hl
    unfold wX8_cueOf_b62 at h
    refine lv_bipush (v := (-100)) hx hb dX8_cueOf_62 (by decide) ?_
    refine q_ist (lv' := [(4, .int (-100 : Int32)), (0, .ref a0), (1, .int x1), (2, .int x2), (3, .int x3)]) hx hb dX8_cueOf_64 hl (by decide) rfl (fun ls hl => ?_)
    refine lv_iconst (v := 0) hx hb dX8_cueOf_66 (by decide) ?_
    refine q_ist (lv' := [(5, .int (0 : Int32)), (4, .int (-100 : Int32)), (0, .ref a0), (1, .int x1), (2, .int x2), (3, .int x3)]) hx hb dX8_cueOf_67 hl (by decide) rfl (fun ls hl => ?_)
    exact j69 q_fuel a0 x1 x2 x3 (-100 : Int32) (0 : Int32) _ _ _ _ h hp (q_sub hl [2, 3, 4, 5, 1, 0] rfl)
  have j38 : ∀ (n : Nat), ∀ (a0 : Nat) (x1 : Int32) (x2 : Int32) (x3 : Int32) (x4 : Int32) (S : q_S) (H : Heap) (locs : List Loc) (ls : Array Slot), lX8_cueOf_b38 Q n a0 x1 x2 x3 x4 S → q_P D g A s.heap S H locs → q_l ls 6 [(0, .ref a0), (1, .int x1), (2, .int x2), (3, .int x3), (4, .int x4)] → W p l e rmX8_cueOf s m args below meth c H locs 0 0 (MQ below (va_Qi Q (q_B D g A) A) args s rmX8_cueOf.cells rmX8_cueOf.slots A) (F0 m 38 ls []) := by
    intro n
    induction n with
    | zero => intro a0 x1 x2 x3 x4 S H locs ls h; exact absurd h (fun h => h)
    | succ n ih38 =>
      intro a0 x1 x2 x3 x4 S H locs ls h hp hl
      have h : wX8_cueOf_b38 Q (lX8_cueOf_b38 Q n) a0 x1 x2 x3 x4 S := h
      unfold wX8_cueOf_b38 at h
      refine lv_iload hx hb dX8_cueOf_38 (q_at hl 4 rfl) ?_
      refine lv_if_lt (tgt := 62) hx hb dX8_cueOf_40 (by decide) (fun c_15 => ?_) (fun c_15 => ?_)
      · replace h := h.1 c_15
        exact j62 a0 x1 x2 x3 _ _ _ _ h hp (q_sub hl [0, 1, 2, 3] rfl)
      · replace h := h.2 c_15
        refine lv_aload_n hx hb dX8_cueOf_43 rfl (q_at hl 0 rfl) ?_
        refine lv_iload_n hx hb dX8_cueOf_44 rfl (q_at hl 1 rfl) ?_
        refine lv_iload hx hb dX8_cueOf_45 (q_at hl 4 rfl) ?_
        refine q_finI0 C hp (q_runV (As := [.int x1, .int x4]) (rest := []) C hp (RX8_isEmpty l D g _ a0 x1 x4 _ h _) (cwV 2 C.2.2.2.2.1 gX8_cueOf_X8_isEmpty rfl rfl rfl (by decide +kernel) ⟨(Nat.le_of_ble_eq_true rfl), (Nat.le_of_ble_eq_true rfl)⟩) h.1 rfl rfl hl.1.1 rfl (Nat.le_of_ble_eq_true rfl) dX8_cueOf_47 ⟨(Nat.le_of_ble_eq_true rfl), (Nat.le_of_ble_eq_true rfl)⟩) rfl rfl (fun v_17 S_16 H locs h hp => ?_)
        refine lv_if_eq (tgt := 62) hx hb dX8_cueOf_50 (by decide) (fun c_18 => ?_) (fun c_18 => ?_)
        · replace h := h.1 c_18
          exact j62 a0 x1 x2 x3 _ _ _ _ h hp (q_sub hl [0, 1, 2, 3] rfl)
        · replace h := h.2 c_18
          refine q_inc (x := x3) (v := (x3 + (1 : Int32))) (lv' := [(3, .int (x3 + (1 : Int32))), (0, .ref a0), (1, .int x1), (2, .int x2), (4, .int x4)]) hx hb dX8_cueOf_53 hl (k := 3) rfl rfl (by decide) rfl (fun ls hl => ?_)
          refine q_inc (x := x4) (v := (x4 + (-1 : Int32))) (lv' := [(4, .int (x4 + (-1 : Int32))), (3, .int (x3 + (1 : Int32))), (0, .ref a0), (1, .int x1), (2, .int x2)]) hx hb dX8_cueOf_56 hl (k := 4) rfl rfl (by decide) rfl (fun ls hl => ?_)
          refine lv_goto (tgt := 38) hx hb dX8_cueOf_59 (by decide) ?_
          exact ih38 a0 x1 x2 (x3 + (1 : Int32)) (x4 + (-1 : Int32)) _ _ _ _ h hp (q_sub hl [2, 3, 4, 1, 0] rfl)
  unfold wX8_cueOf at h
  replace h := h.2
  refine lv_aload_n hx hb dX8_cueOf_0 rfl (q_at hl 0 rfl) ?_
  refine lv_iload_n hx hb dX8_cueOf_1 rfl (q_at hl 1 rfl) ?_
  refine lv_iload_n hx hb dX8_cueOf_2 rfl (q_at hl 2 rfl) ?_
  refine q_finI0 C hp (q_runV (As := [.int x1, .int x2]) (rest := []) C hp (RX8_isEmpty l D g _ a0 x1 x2 _ h _) (cwV 2 C.2.2.2.2.1 gX8_cueOf_X8_isEmpty rfl rfl rfl (by decide +kernel) ⟨(Nat.le_of_ble_eq_true rfl), (Nat.le_of_ble_eq_true rfl)⟩) h.1 rfl rfl hl.1.1 rfl (Nat.le_of_ble_eq_true rfl) dX8_cueOf_3 ⟨(Nat.le_of_ble_eq_true rfl), (Nat.le_of_ble_eq_true rfl)⟩) rfl rfl (fun v_20 S_19 H locs h hp => ?_)
  refine lv_if_eq (tgt := 30) hx hb dX8_cueOf_6 (by decide) (fun c_21 => ?_) (fun c_21 => ?_)
  · replace h := h.1 c_21
    refine lv_bipush (v := (-100)) hx hb dX8_cueOf_30 (by decide) ?_
    exact q_iret C hp hr h dX8_cueOf_32
  · replace h := h.2 c_21
    refine lv_iload_n hx hb dX8_cueOf_9 rfl (q_at hl 2 rfl) ?_
    refine lv_iconst (v := 1) hx hb dX8_cueOf_10 (by decide) ?_
    refine lv_iadd hx hb dX8_cueOf_11 ?_
    refine lv_aload_n hx hb dX8_cueOf_12 rfl (q_at hl 0 rfl) ?_
    refine q_rGI C hp h rfl iX8_cueOf_X8 (by decide) kX8_cueOf_112 dX8_cueOf_13 (fun v_22 h => ?_)
    refine lv_icmp_eq (tgt := 30) hx hb dX8_cueOf_16 (by decide) (fun c_23 => ?_) (fun c_23 => ?_)
    · replace h := h.1 c_23
      refine lv_bipush (v := (-100)) hx hb dX8_cueOf_30 (by decide) ?_
      exact q_iret C hp hr h dX8_cueOf_32
    · replace h := h.2 c_23
      refine lv_aload_n hx hb dX8_cueOf_19 rfl (q_at hl 0 rfl) ?_
      refine lv_iload_n hx hb dX8_cueOf_20 rfl (q_at hl 1 rfl) ?_
      refine lv_iload_n hx hb dX8_cueOf_21 rfl (q_at hl 2 rfl) ?_
      refine lv_iconst (v := 1) hx hb dX8_cueOf_22 (by decide) ?_
      refine lv_iadd hx hb dX8_cueOf_23 ?_
      refine q_finI0 C hp (q_runV (As := [.int x1, .int (x2 + (1 : Int32))]) (rest := []) C hp (RX8_isEmpty l D g _ a0 x1 (x2 + (1 : Int32)) _ h _) (cwV 2 C.2.2.2.2.1 gX8_cueOf_X8_isEmpty rfl rfl rfl (by decide +kernel) ⟨(Nat.le_of_ble_eq_true rfl), (Nat.le_of_ble_eq_true rfl)⟩) h.1 rfl rfl hl.1.1 rfl (Nat.le_of_ble_eq_true rfl) dX8_cueOf_24 ⟨(Nat.le_of_ble_eq_true rfl), (Nat.le_of_ble_eq_true rfl)⟩) rfl rfl (fun v_25 S_24 H locs h hp => ?_)
      refine lv_if_eq (tgt := 33) hx hb dX8_cueOf_27 (by decide) (fun c_26 => ?_) (fun c_26 => ?_)
      · replace h := h.1 c_26
        refine lv_iconst (v := 0) hx hb dX8_cueOf_33 (by decide) ?_
        refine q_istn (lv' := [(3, .int (0 : Int32)), (0, .ref a0), (1, .int x1), (2, .int x2)]) hx hb dX8_cueOf_34 rfl hl (by decide) rfl (fun ls hl => ?_)
        refine lv_iload_n hx hb dX8_cueOf_35 rfl (q_at hl 3 rfl) ?_
        refine q_ist (lv' := [(4, .int x2), (3, .int (0 : Int32)), (0, .ref a0), (1, .int x1), (2, .int x2)]) hx hb dX8_cueOf_36 hl (by decide) rfl (fun ls hl => ?_)
        exact j38 q_fuel a0 x1 x2 (0 : Int32) x2 _ _ _ _ h hp (q_sub hl [2, 3, 4, 1, 0] rfl)
      · replace h := h.2 c_26
        refine lv_bipush (v := (-100)) hx hb dX8_cueOf_30 (by decide) ?_
        exact q_iret C hp hr h dX8_cueOf_32
theorem kX8_unlikeStarts_7 : Cond.fieldLink RX8 7 (TX8 2).1 (TX8 2).2.1 (TX8 2).2.2.1 ∈ wsX8_unlikeStarts := by decide +kernel
theorem kX8_unlikeStarts_13 : Cond.fieldLink RX8 13 (TX8 3).1 (TX8 3).2.1 (TX8 3).2.2.1 ∈ wsX8_unlikeStarts := by decide +kernel
theorem iX8_unlikeStarts_X8 : ∀ w ∈ u_ws RX8 TX8 36, w ∈ wsX8_unlikeStarts := by decide +kernel
set_option maxHeartbeats 4000000 in
set_option maxRecDepth 100000 in
theorem RX8_unlikeStarts (l : Launch) (D : va_G) (g : q_A) (S : q_S) (a0 : Nat) (x1 : Int32) (x2 : Int32) (Q : Int32 → q_S → Prop) (h : wX8_unlikeStarts a0 x1 x2 Q S) : q_Mi l yX8_unlikeStarts wsX8_unlikeStarts rmX8_unlikeStarts D g [.ref a0, .int x1, .int x2] S Q := by
  refine q_Mi.of (cc := cX8_unlikeStarts) (nL := 6) (rt := .int) (by decide +kernel) rfl (Nat.le_of_ble_eq_true rfl) rfl ?_
  intro p e s m args below meth c ls A C hr hnm hp hl
  have C : q_X p s m args meth c cX8_unlikeStarts 6 RX8 wsX8_unlikeStarts D g A := C
  have hx := C.1
  have hb := C.2.1
  have hl : q_l ls 6 [(0, .ref a0), (1, .int x1), (2, .int x2)] := hl
  have j65 : ∀ (k13 : Nat → Int32 → Int32 → Int32 → q_S → Prop) (ih13 : ∀ (a0 : Nat) (x3 : Int32) (x4 : Int32) (x5 : Int32) (S : q_S) (H : Heap) (locs : List Loc) (ls : Array Slot), k13 a0 x3 x4 x5 S → q_P D g A s.heap S H locs → q_l ls 6 [(0, .ref a0), (3, .int x3), (4, .int x4), (5, .int x5)] → W p l e rmX8_unlikeStarts s m args below meth c H locs 0 0 (MQ below (va_Qi Q (q_B D g A) A) args s rmX8_unlikeStarts.cells rmX8_unlikeStarts.slots A) (F0 m 13 ls [])) (a0 : Nat) (x3 : Int32) (x5 : Int32) (y0 : Int32) (y1 : Int32) (S : q_S) (H : Heap) (locs : List Loc) (ls : Array Slot), wX8_unlikeStarts_b65 Q k13 a0 x3 x5 y0 y1 S → q_P D g A s.heap S H locs → q_l ls 6 [(0, .ref a0), (3, .int x3), (5, .int x5)] → W p l e rmX8_unlikeStarts s m args below meth c H locs 0 0 (MQ below (va_Qi Q (q_B D g A) A) args s rmX8_unlikeStarts.cells rmX8_unlikeStarts.slots A) (F0 m 65 ls [.int y1, .int y0]) := by
    intro k13 ih13 a0 x3 x5 y0 y1 S H locs ls h hp hl
    unfold wX8_unlikeStarts_b65 at h
    refine lv_iadd hx hb dX8_unlikeStarts_65 ?_
    refine q_ist (lv' := [(4, .int (y0 + y1)), (0, .ref a0), (3, .int x3), (5, .int x5)]) hx hb dX8_unlikeStarts_66 hl (by decide) rfl (fun ls hl => ?_)
    refine q_inc (x := x5) (v := (x5 + (1 : Int32))) (lv' := [(5, .int (x5 + (1 : Int32))), (4, .int (y0 + y1)), (0, .ref a0), (3, .int x3)]) hx hb dX8_unlikeStarts_68 hl (k := 3) rfl rfl (by decide) rfl (fun ls hl => ?_)
    refine lv_goto (tgt := 13) hx hb dX8_unlikeStarts_71 (by decide) ?_
    exact ih13 a0 x3 (y0 + y1) (x5 + (1 : Int32)) _ _ _ _ h hp (q_sub hl [2, 3, 1, 0] rfl)
  have j60 : ∀ (k13 : Nat → Int32 → Int32 → Int32 → q_S → Prop) (ih13 : ∀ (a0 : Nat) (x3 : Int32) (x4 : Int32) (x5 : Int32) (S : q_S) (H : Heap) (locs : List Loc) (ls : Array Slot), k13 a0 x3 x4 x5 S → q_P D g A s.heap S H locs → q_l ls 6 [(0, .ref a0), (3, .int x3), (4, .int x4), (5, .int x5)] → W p l e rmX8_unlikeStarts s m args below meth c H locs 0 0 (MQ below (va_Qi Q (q_B D g A) A) args s rmX8_unlikeStarts.cells rmX8_unlikeStarts.slots A) (F0 m 13 ls [])) (a0 : Nat) (x3 : Int32) (x5 : Int32) (y0 : Int32) (S : q_S) (H : Heap) (locs : List Loc) (ls : Array Slot), wX8_unlikeStarts_b60 Q k13 a0 x3 x5 y0 S → q_P D g A s.heap S H locs → q_l ls 6 [(0, .ref a0), (3, .int x3), (5, .int x5)] → W p l e rmX8_unlikeStarts s m args below meth c H locs 0 0 (MQ below (va_Qi Q (q_B D g A) A) args s rmX8_unlikeStarts.cells rmX8_unlikeStarts.slots A) (F0 m 60 ls [.int y0]) := by
    intro k13 ih13 a0 x3 x5 y0 S H locs ls h hp hl
    unfold wX8_unlikeStarts_b60 at h
    refine lv_iconst (v := 1) hx hb dX8_unlikeStarts_60 (by decide) ?_
    refine lv_goto (tgt := 65) hx hb dX8_unlikeStarts_61 (by decide) ?_
    exact j65 k13 ih13 a0 x3 x5 y0 (1 : Int32) _ _ _ _ h hp (q_sub hl [0, 1, 2] rfl)
  have j13 : ∀ (n : Nat), ∀ (a0 : Nat) (x3 : Int32) (x4 : Int32) (x5 : Int32) (S : q_S) (H : Heap) (locs : List Loc) (ls : Array Slot), lX8_unlikeStarts_b13 Q n a0 x3 x4 x5 S → q_P D g A s.heap S H locs → q_l ls 6 [(0, .ref a0), (3, .int x3), (4, .int x4), (5, .int x5)] → W p l e rmX8_unlikeStarts s m args below meth c H locs 0 0 (MQ below (va_Qi Q (q_B D g A) A) args s rmX8_unlikeStarts.cells rmX8_unlikeStarts.slots A) (F0 m 13 ls []) := by
    intro n
    induction n with
    | zero => intro a0 x3 x4 x5 S H locs ls h; exact absurd h (fun h => h)
    | succ n ih13 =>
      intro a0 x3 x4 x5 S H locs ls h hp hl
      have h : wX8_unlikeStarts_b13 Q (lX8_unlikeStarts_b13 Q n) a0 x3 x4 x5 S := h
      unfold wX8_unlikeStarts_b13 at h
      refine lv_iload hx hb dX8_unlikeStarts_13 (q_at hl 3 rfl) ?_
      refine lv_aload_n hx hb dX8_unlikeStarts_15 rfl (q_at hl 0 rfl) ?_
      refine q_rGR C hp h rfl iX8_unlikeStarts_X8 (by decide) kX8_unlikeStarts_7 dX8_unlikeStarts_16 (fun r_1 h => ?_)
      refine lv_iload_n hx hb dX8_unlikeStarts_19 rfl (q_at hl 1 rfl) ?_
      refine q_rLI C hp h dX8_unlikeStarts_20 (fun v_2 h => ?_)
      refine lv_icmp_ge (tgt := 74) hx hb dX8_unlikeStarts_21 (by decide) (fun c_3 => ?_) (fun c_3 => ?_)
      · replace h := h.1 c_3
        refine lv_iload hx hb dX8_unlikeStarts_74 (q_at hl 2 rfl) ?_
        exact q_iret C hp hr h dX8_unlikeStarts_76
      · replace h := h.2 c_3
        refine lv_iload hx hb dX8_unlikeStarts_24 (q_at hl 2 rfl) ?_
        refine lv_iload hx hb dX8_unlikeStarts_26 (q_at hl 3 rfl) ?_
        refine lv_if_eq (tgt := 60) hx hb dX8_unlikeStarts_28 (by decide) (fun c_4 => ?_) (fun c_4 => ?_)
        · replace h := h.1 c_4
          exact j60 (lX8_unlikeStarts_b13 Q n) ih13 a0 x3 x5 x4 _ _ _ _ h hp (q_sub hl [0, 1, 3] rfl)
        · replace h := h.2 c_4
          refine lv_aload_n hx hb dX8_unlikeStarts_31 rfl (q_at hl 0 rfl) ?_
          refine q_rGR C hp h rfl iX8_unlikeStarts_X8 (by decide) kX8_unlikeStarts_13 dX8_unlikeStarts_32 (fun r_5 h => ?_)
          refine lv_bipush (v := 8) hx hb dX8_unlikeStarts_35 (by decide) ?_
          refine lv_iload_n hx hb dX8_unlikeStarts_37 rfl (q_at hl 1 rfl) ?_
          refine lv_imul hx hb dX8_unlikeStarts_38 ?_
          refine lv_iload hx hb dX8_unlikeStarts_39 (q_at hl 3 rfl) ?_
          refine lv_iadd hx hb dX8_unlikeStarts_41 ?_
          refine q_rLI C hp h dX8_unlikeStarts_42 (fun v_6 h => ?_)
          refine lv_aload_n hx hb dX8_unlikeStarts_43 rfl (q_at hl 0 rfl) ?_
          refine q_rGR C hp h rfl iX8_unlikeStarts_X8 (by decide) kX8_unlikeStarts_13 dX8_unlikeStarts_44 (fun r_7 h => ?_)
          refine lv_bipush (v := 8) hx hb dX8_unlikeStarts_47 (by decide) ?_
          refine lv_iload_n hx hb dX8_unlikeStarts_49 rfl (q_at hl 1 rfl) ?_
          refine lv_imul hx hb dX8_unlikeStarts_50 ?_
          refine lv_iload hx hb dX8_unlikeStarts_51 (q_at hl 3 rfl) ?_
          refine lv_iadd hx hb dX8_unlikeStarts_53 ?_
          refine lv_iconst (v := 1) hx hb dX8_unlikeStarts_54 (by decide) ?_
          refine lv_isub hx hb dX8_unlikeStarts_55 ?_
          refine q_rLI C hp h dX8_unlikeStarts_56 (fun v_8 h => ?_)
          refine lv_icmp_eq (tgt := 64) hx hb dX8_unlikeStarts_57 (by decide) (fun c_9 => ?_) (fun c_9 => ?_)
          · replace h := h.1 c_9
            refine lv_iconst (v := 0) hx hb dX8_unlikeStarts_64 (by decide) ?_
            exact j65 (lX8_unlikeStarts_b13 Q n) ih13 a0 x3 x5 x4 (0 : Int32) _ _ _ _ h hp (q_sub hl [0, 1, 3] rfl)
          · replace h := h.2 c_9
            exact j60 (lX8_unlikeStarts_b13 Q n) ih13 a0 x3 x5 x4 _ _ _ _ h hp (q_sub hl [0, 1, 3] rfl)
  unfold wX8_unlikeStarts at h
  replace h := h.2
  refine lv_bipush (v := 40) hx hb dX8_unlikeStarts_0 (by decide) ?_
  refine lv_iload_n hx hb dX8_unlikeStarts_2 rfl (q_at hl 1 rfl) ?_
  refine lv_imul hx hb dX8_unlikeStarts_3 ?_
  refine lv_iload_n hx hb dX8_unlikeStarts_4 rfl (q_at hl 2 rfl) ?_
  refine lv_iadd hx hb dX8_unlikeStarts_5 ?_
  refine q_istn (lv' := [(3, .int (((40 : Int32) * x1) + x2)), (0, .ref a0), (1, .int x1), (2, .int x2)]) hx hb dX8_unlikeStarts_6 rfl hl (by decide) rfl (fun ls hl => ?_)
  refine lv_iconst (v := 0) hx hb dX8_unlikeStarts_7 (by decide) ?_
  refine q_ist (lv' := [(4, .int (0 : Int32)), (3, .int (((40 : Int32) * x1) + x2)), (0, .ref a0), (1, .int x1), (2, .int x2)]) hx hb dX8_unlikeStarts_8 hl (by decide) rfl (fun ls hl => ?_)
  refine lv_iconst (v := 0) hx hb dX8_unlikeStarts_10 (by decide) ?_
  refine q_ist (lv' := [(5, .int (0 : Int32)), (4, .int (0 : Int32)), (3, .int (((40 : Int32) * x1) + x2)), (0, .ref a0), (1, .int x1), (2, .int x2)]) hx hb dX8_unlikeStarts_11 hl (by decide) rfl (fun ls hl => ?_)
  exact j13 q_fuel a0 (((40 : Int32) * x1) + x2) (0 : Int32) (0 : Int32) _ _ _ _ h hp (q_sub hl [3, 2, 1, 0] rfl)
theorem kX8_addRow_7 : Cond.fieldLink RX8 7 (TX8 2).1 (TX8 2).2.1 (TX8 2).2.2.1 ∈ wsX8_addRow := by decide +kernel
theorem kX8_addRow_13 : Cond.fieldLink RX8 13 (TX8 3).1 (TX8 3).2.1 (TX8 3).2.2.1 ∈ wsX8_addRow := by decide +kernel
theorem kX8_addRow_16 : Cond.fieldLink RX8 16 (TX8 4).1 (TX8 4).2.1 (TX8 4).2.2.1 ∈ wsX8_addRow := by decide +kernel
theorem kX8_addRow_19 : Cond.fieldLink RX8 19 (TX8 5).1 (TX8 5).2.1 (TX8 5).2.2.1 ∈ wsX8_addRow := by decide +kernel
theorem kX8_addRow_22 : Cond.fieldLink RX8 22 (TX8 6).1 (TX8 6).2.1 (TX8 6).2.2.1 ∈ wsX8_addRow := by decide +kernel
theorem kX8_addRow_32 : Cond.fieldLink RX8 32 (TX8 9).1 (TX8 9).2.1 (TX8 9).2.2.1 ∈ wsX8_addRow := by decide +kernel
theorem kX8_addRow_35 : Cond.fieldLink RX8 35 (TX8 10).1 (TX8 10).2.1 (TX8 10).2.2.1 ∈ wsX8_addRow := by decide +kernel
theorem kX8_addRow_45 : Cond.fieldLink RX8 45 (TX8 13).1 (TX8 13).2.1 (TX8 13).2.2.1 ∈ wsX8_addRow := by decide +kernel
theorem kX8_addRow_48 : Cond.fieldLink RX8 48 (TX8 14).1 (TX8 14).2.1 (TX8 14).2.2.1 ∈ wsX8_addRow := by decide +kernel
theorem kX8_addRow_51 : Cond.fieldLink RX8 51 (TX8 15).1 (TX8 15).2.1 (TX8 15).2.2.1 ∈ wsX8_addRow := by decide +kernel
theorem kX8_addRow_54 : Cond.fieldLink RX8 54 (TX8 16).1 (TX8 16).2.1 (TX8 16).2.2.1 ∈ wsX8_addRow := by decide +kernel
theorem kX8_addRow_57 : Cond.fieldLink RX8 57 (TX8 17).1 (TX8 17).2.1 (TX8 17).2.2.1 ∈ wsX8_addRow := by decide +kernel
theorem kX8_addRow_60 : Cond.fieldLink RX8 60 (TX8 18).1 (TX8 18).2.1 (TX8 18).2.2.1 ∈ wsX8_addRow := by decide +kernel
theorem kX8_addRow_63 : Cond.fieldLink RX8 63 (TX8 19).1 (TX8 19).2.1 (TX8 19).2.2.1 ∈ wsX8_addRow := by decide +kernel
theorem kX8_addRow_66 : Cond.fieldLink RX8 66 (TX8 20).1 (TX8 20).2.1 (TX8 20).2.2.1 ∈ wsX8_addRow := by decide +kernel
theorem kX8_addRow_69 : Cond.fieldLink RX8 69 (TX8 21).1 (TX8 21).2.1 (TX8 21).2.2.1 ∈ wsX8_addRow := by decide +kernel
theorem iX8_addRow_X8 : ∀ w ∈ u_ws RX8 TX8 36, w ∈ wsX8_addRow := by decide +kernel
set_option maxHeartbeats 4000000 in
set_option maxRecDepth 100000 in
theorem RX8_addRow (l : Launch) (D : va_G) (g : q_A) (S : q_S) (a0 : Nat) (x1 : Int32) (x2 : Int32) (x3 : Int32) (x4 : Int32) (x5 : Int32) (Q : q_S → Prop) (h : wX8_addRow a0 x1 x2 x3 x4 x5 Q S) : q_Mv l yX8_addRow wsX8_addRow rmX8_addRow D g [.ref a0, .int x1, .int x2, .int x3, .int x4, .int x5] S Q := by
  refine q_Mv.of (cc := cX8_addRow) (nL := 13) (by decide +kernel) rfl (Nat.le_of_ble_eq_true rfl) rfl ?_
  intro p e s m args below meth c ls A C hr hnm hp hl
  have C : q_X p s m args meth c cX8_addRow 13 RX8 wsX8_addRow D g A := C
  have hx := C.1
  have hb := C.2.1
  have hl : q_l ls 13 [(0, .ref a0), (1, .int x1), (2, .int x2), (3, .int x3), (4, .int x4), (5, .int x5)] := hl
  have j350 : ∀ (k185 : Nat → Int32 → Int32 → Int32 → Int32 → Int32 → q_S → Prop) (ih185 : ∀ (a0 : Nat) (x1 : Int32) (x3 : Int32) (x5 : Int32) (x6 : Int32) (x8 : Int32) (S : q_S) (H : Heap) (locs : List Loc) (ls : Array Slot), k185 a0 x1 x3 x5 x6 x8 S → q_P D g A s.heap S H locs → q_l ls 13 [(0, .ref a0), (1, .int x1), (3, .int x3), (5, .int x5), (6, .int x6), (8, .int x8)] → W p l e rmX8_addRow s m args below meth c H locs 0 0 (MQ below (va_Qv Q (q_B D g A) A) args s rmX8_addRow.cells rmX8_addRow.slots A) (F0 m 185 ls [])) (n : Nat), ∀ (a0 : Nat) (x1 : Int32) (x3 : Int32) (x5 : Int32) (x6 : Int32) (x8 : Int32) (x10 : Int32) (x12 : Int32) (S : q_S) (H : Heap) (locs : List Loc) (ls : Array Slot), lX8_addRow_b350 Q k185 n a0 x1 x3 x5 x6 x8 x10 x12 S → q_P D g A s.heap S H locs → q_l ls 13 [(0, .ref a0), (1, .int x1), (3, .int x3), (5, .int x5), (6, .int x6), (8, .int x8), (10, .int x10), (12, .int x12)] → W p l e rmX8_addRow s m args below meth c H locs 0 0 (MQ below (va_Qv Q (q_B D g A) A) args s rmX8_addRow.cells rmX8_addRow.slots A) (F0 m 350 ls []) := by
    intro k185 ih185
    intro n
    induction n with
    | zero => intro a0 x1 x3 x5 x6 x8 x10 x12 S H locs ls h; exact absurd h (fun h => h)
    | succ n ih350 =>
      intro a0 x1 x3 x5 x6 x8 x10 x12 S H locs ls h hp hl
      have h : wX8_addRow_b350 Q k185 (lX8_addRow_b350 Q k185 n) a0 x1 x3 x5 x6 x8 x10 x12 S := h
      unfold wX8_addRow_b350 at h
      refine lv_iload hx hb dX8_addRow_350 (q_at hl 7 rfl) ?_
      refine lv_bipush (v := (-15)) hx hb dX8_addRow_352 (by decide) ?_
      refine lv_icmp_ge (tgt := 363) hx hb dX8_addRow_354 (by decide) (fun c_1 => ?_) (fun c_1 => ?_)
      · replace h := h.1 c_1
        refine lv_aload_n hx hb dX8_addRow_363 rfl (q_at hl 0 rfl) ?_
        refine q_rGR C hp h rfl iX8_addRow_X8 (by decide) kX8_addRow_69 dX8_addRow_364 (fun r_2 h => ?_)
        refine lv_iload hx hb dX8_addRow_367 (q_at hl 6 rfl) ?_
        refine lv_iconst (v := 3) hx hb dX8_addRow_369 (by decide) ?_
        refine lv_iadd hx hb dX8_addRow_370 ?_
        refine lv_iload hx hb dX8_addRow_371 (q_at hl 7 rfl) ?_
        refine q_rSI C hp h dX8_addRow_373 (fun S_3 H locs h hp => ?_)
        refine q_inc (x := x8) (v := (x8 + (1 : Int32))) (lv' := [(8, .int (x8 + (1 : Int32))), (0, .ref a0), (1, .int x1), (3, .int x3), (5, .int x5), (6, .int x6), (10, .int x10), (12, .int x12)]) hx hb dX8_addRow_374 hl (k := 5) rfl rfl (by decide) rfl (fun ls hl => ?_)
        refine lv_goto (tgt := 185) hx hb dX8_addRow_377 (by decide) ?_
        exact ih185 a0 x1 x3 x5 x6 (x8 + (1 : Int32)) _ _ _ _ h hp (q_sub hl [1, 2, 3, 4, 5, 0] rfl)
      · replace h := h.2 c_1
        refine q_inc (x := x12) (v := (x12 + (12 : Int32))) (lv' := [(12, .int (x12 + (12 : Int32))), (0, .ref a0), (1, .int x1), (3, .int x3), (5, .int x5), (6, .int x6), (8, .int x8), (10, .int x10)]) hx hb dX8_addRow_357 hl (k := 7) rfl rfl (by decide) rfl (fun ls hl => ?_)
        refine lv_goto (tgt := 350) hx hb dX8_addRow_360 (by decide) ?_
        exact ih350 a0 x1 x3 x5 x6 x8 x10 (x12 + (12 : Int32)) _ _ _ _ h hp (q_sub hl [1, 2, 3, 4, 5, 6, 7, 0] rfl)
  have j337 : ∀ (k185 : Nat → Int32 → Int32 → Int32 → Int32 → Int32 → q_S → Prop) (ih185 : ∀ (a0 : Nat) (x1 : Int32) (x3 : Int32) (x5 : Int32) (x6 : Int32) (x8 : Int32) (S : q_S) (H : Heap) (locs : List Loc) (ls : Array Slot), k185 a0 x1 x3 x5 x6 x8 S → q_P D g A s.heap S H locs → q_l ls 13 [(0, .ref a0), (1, .int x1), (3, .int x3), (5, .int x5), (6, .int x6), (8, .int x8)] → W p l e rmX8_addRow s m args below meth c H locs 0 0 (MQ below (va_Qv Q (q_B D g A) A) args s rmX8_addRow.cells rmX8_addRow.slots A) (F0 m 185 ls [])) (n : Nat), ∀ (a0 : Nat) (x1 : Int32) (x3 : Int32) (x5 : Int32) (x6 : Int32) (x8 : Int32) (x10 : Int32) (x12 : Int32) (S : q_S) (H : Heap) (locs : List Loc) (ls : Array Slot), lX8_addRow_b337 Q k185 n a0 x1 x3 x5 x6 x8 x10 x12 S → q_P D g A s.heap S H locs → q_l ls 13 [(0, .ref a0), (1, .int x1), (3, .int x3), (5, .int x5), (6, .int x6), (8, .int x8), (10, .int x10), (12, .int x12)] → W p l e rmX8_addRow s m args below meth c H locs 0 0 (MQ below (va_Qv Q (q_B D g A) A) args s rmX8_addRow.cells rmX8_addRow.slots A) (F0 m 337 ls []) := by
    intro k185 ih185
    intro n
    induction n with
    | zero => intro a0 x1 x3 x5 x6 x8 x10 x12 S H locs ls h; exact absurd h (fun h => h)
    | succ n ih337 =>
      intro a0 x1 x3 x5 x6 x8 x10 x12 S H locs ls h hp hl
      have h : wX8_addRow_b337 Q k185 (lX8_addRow_b337 Q k185 n) a0 x1 x3 x5 x6 x8 x10 x12 S := h
      unfold wX8_addRow_b337 at h
      refine lv_iload hx hb dX8_addRow_337 (q_at hl 7 rfl) ?_
      refine lv_bipush (v := 19) hx hb dX8_addRow_339 (by decide) ?_
      refine lv_icmp_le (tgt := 350) hx hb dX8_addRow_341 (by decide) (fun c_4 => ?_) (fun c_4 => ?_)
      · replace h := h.1 c_4
        exact j350 k185 ih185 q_fuel a0 x1 x3 x5 x6 x8 x10 x12 _ _ _ _ h hp (q_sub hl [0, 1, 2, 3, 4, 5, 6, 7] rfl)
      · replace h := h.2 c_4
        refine q_inc (x := x12) (v := (x12 + (-12 : Int32))) (lv' := [(12, .int (x12 + (-12 : Int32))), (0, .ref a0), (1, .int x1), (3, .int x3), (5, .int x5), (6, .int x6), (8, .int x8), (10, .int x10)]) hx hb dX8_addRow_344 hl (k := 7) rfl rfl (by decide) rfl (fun ls hl => ?_)
        refine lv_goto (tgt := 337) hx hb dX8_addRow_347 (by decide) ?_
        exact ih337 a0 x1 x3 x5 x6 x8 x10 (x12 + (-12 : Int32)) _ _ _ _ h hp (q_sub hl [1, 2, 3, 4, 5, 6, 7, 0] rfl)
  have j302 : ∀ (k185 : Nat → Int32 → Int32 → Int32 → Int32 → Int32 → q_S → Prop) (ih185 : ∀ (a0 : Nat) (x1 : Int32) (x3 : Int32) (x5 : Int32) (x6 : Int32) (x8 : Int32) (S : q_S) (H : Heap) (locs : List Loc) (ls : Array Slot), k185 a0 x1 x3 x5 x6 x8 S → q_P D g A s.heap S H locs → q_l ls 13 [(0, .ref a0), (1, .int x1), (3, .int x3), (5, .int x5), (6, .int x6), (8, .int x8)] → W p l e rmX8_addRow s m args below meth c H locs 0 0 (MQ below (va_Qv Q (q_B D g A) A) args s rmX8_addRow.cells rmX8_addRow.slots A) (F0 m 185 ls [])) (a0 : Nat) (x1 : Int32) (x3 : Int32) (x5 : Int32) (x6 : Int32) (x8 : Int32) (x9 : Int32) (x10 : Int32) (b0 : Nat) (y1 : Int32) (y2 : Int32) (y3 : Int32) (S : q_S) (H : Heap) (locs : List Loc) (ls : Array Slot), wX8_addRow_b302 Q k185 a0 x1 x3 x5 x6 x8 x9 x10 b0 y1 y2 y3 S → q_P D g A s.heap S H locs → q_l ls 13 [(0, .ref a0), (1, .int x1), (3, .int x3), (5, .int x5), (6, .int x6), (8, .int x8), (9, .int x9), (10, .int x10)] → W p l e rmX8_addRow s m args below meth c H locs 0 0 (MQ below (va_Qv Q (q_B D g A) A) args s rmX8_addRow.cells rmX8_addRow.slots A) (F0 m 302 ls [.int y3, .int y2, .int y1, .ref b0]) := by
    intro k185 ih185 a0 x1 x3 x5 x6 x8 x9 x10 b0 y1 y2 y3 S H locs ls h hp hl
    unfold wX8_addRow_b302 at h
    refine lv_iadd hx hb dX8_addRow_302 ?_
    refine lv_bipush (v := 12) hx hb dX8_addRow_303 (by decide) ?_
    refine lv_aload_n hx hb dX8_addRow_305 rfl (q_at hl 0 rfl) ?_
    refine q_rGR C hp h rfl iX8_addRow_X8 (by decide) kX8_addRow_35 dX8_addRow_306 (fun r_5 h => ?_)
    refine lv_iload_n hx hb dX8_addRow_309 rfl (q_at hl 1 rfl) ?_
    refine q_rLI C hp h dX8_addRow_310 (fun v_6 h => ?_)
    refine lv_imul hx hb dX8_addRow_311 ?_
    refine lv_iadd hx hb dX8_addRow_312 ?_
    refine q_rSI C hp h dX8_addRow_313 (fun S_7 H locs h hp => ?_)
    refine lv_aload_n hx hb dX8_addRow_314 rfl (q_at hl 0 rfl) ?_
    refine q_rGR C hp h rfl iX8_addRow_X8 (by decide) kX8_addRow_22 dX8_addRow_315 (fun r_8 h => ?_)
    refine lv_iload hx hb dX8_addRow_318 (q_at hl 6 rfl) ?_
    refine q_rLI C hp h dX8_addRow_320 (fun v_9 h => ?_)
    refine lv_aload_n hx hb dX8_addRow_321 rfl (q_at hl 0 rfl) ?_
    refine q_rGR C hp h rfl iX8_addRow_X8 (by decide) kX8_addRow_32 dX8_addRow_322 (fun r_10 h => ?_)
    refine lv_iload_n hx hb dX8_addRow_325 rfl (q_at hl 1 rfl) ?_
    refine q_rLI C hp h dX8_addRow_326 (fun v_11 h => ?_)
    refine lv_iadd hx hb dX8_addRow_327 ?_
    refine lv_aload_n hx hb dX8_addRow_328 rfl (q_at hl 0 rfl) ?_
    refine lv_iload_n hx hb dX8_addRow_329 rfl (q_at hl 1 rfl) ?_
    refine lv_iload_n hx hb dX8_addRow_330 rfl (q_at hl 2 rfl) ?_
    refine q_finI0 C hp (q_runV (As := [.int x1, .int x3]) (rest := [.int (v_9 + v_11)]) C hp (RX8_turnOf l D g _ a0 x1 x3 _ h _) (cwV 2 C.2.2.2.2.1 gX8_addRow_X8_turnOf rfl rfl rfl (by decide +kernel) ⟨(Nat.le_of_ble_eq_true rfl), (Nat.le_of_ble_eq_true rfl)⟩) h.1 rfl rfl hl.1.1 rfl (Nat.le_of_ble_eq_true rfl) dX8_addRow_331 ⟨(Nat.le_of_ble_eq_true rfl), (Nat.le_of_ble_eq_true rfl)⟩) rfl rfl (fun v_13 S_12 H locs h hp => ?_)
    refine lv_iadd hx hb dX8_addRow_334 ?_
    refine q_ist (lv' := [(12, .int ((v_9 + v_11) + v_13)), (0, .ref a0), (1, .int x1), (3, .int x3), (5, .int x5), (6, .int x6), (8, .int x8), (9, .int x9), (10, .int x10)]) hx hb dX8_addRow_335 hl (by decide) rfl (fun ls hl => ?_)
    exact j337 k185 ih185 q_fuel a0 x1 x3 x5 x6 x8 x10 ((v_9 + v_11) + v_13) _ _ _ _ h hp (q_sub hl [1, 2, 3, 4, 5, 6, 8, 0] rfl)
  have j185 : ∀ (n : Nat), ∀ (a0 : Nat) (x1 : Int32) (x3 : Int32) (x5 : Int32) (x6 : Int32) (x8 : Int32) (S : q_S) (H : Heap) (locs : List Loc) (ls : Array Slot), lX8_addRow_b185 Q n a0 x1 x3 x5 x6 x8 S → q_P D g A s.heap S H locs → q_l ls 13 [(0, .ref a0), (1, .int x1), (3, .int x3), (5, .int x5), (6, .int x6), (8, .int x8)] → W p l e rmX8_addRow s m args below meth c H locs 0 0 (MQ below (va_Qv Q (q_B D g A) A) args s rmX8_addRow.cells rmX8_addRow.slots A) (F0 m 185 ls []) := by
    intro n
    induction n with
    | zero => intro a0 x1 x3 x5 x6 x8 S H locs ls h; exact absurd h (fun h => h)
    | succ n ih185 =>
      intro a0 x1 x3 x5 x6 x8 S H locs ls h hp hl
      have h : wX8_addRow_b185 Q (lX8_addRow_b185 Q n) a0 x1 x3 x5 x6 x8 S := h
      unfold wX8_addRow_b185 at h
      refine lv_iload hx hb dX8_addRow_185 (q_at hl 5 rfl) ?_
      refine lv_aload_n hx hb dX8_addRow_187 rfl (q_at hl 0 rfl) ?_
      refine q_rGR C hp h rfl iX8_addRow_X8 (by decide) kX8_addRow_66 dX8_addRow_188 (fun r_14 h => ?_)
      refine lv_iload hx hb dX8_addRow_191 (q_at hl 4 rfl) ?_
      refine q_rLI C hp h dX8_addRow_193 (fun v_15 h => ?_)
      refine lv_icmp_ge (tgt := 380) hx hb dX8_addRow_194 (by decide) (fun c_16 => ?_) (fun c_16 => ?_)
      · replace h := h.1 c_16
        exact q_vret C hp hr h dX8_addRow_380
      · replace h := h.2 c_16
        refine lv_bipush (v := 8) hx hb dX8_addRow_197 (by decide) ?_
        refine lv_bipush (v := 40) hx hb dX8_addRow_199 (by decide) ?_
        refine lv_iload hx hb dX8_addRow_201 (q_at hl 3 rfl) ?_
        refine lv_imul hx hb dX8_addRow_203 ?_
        refine lv_iload_n hx hb dX8_addRow_204 rfl (q_at hl 2 rfl) ?_
        refine lv_iadd hx hb dX8_addRow_205 ?_
        refine lv_imul hx hb dX8_addRow_206 ?_
        refine lv_iload hx hb dX8_addRow_207 (q_at hl 5 rfl) ?_
        refine lv_iadd hx hb dX8_addRow_209 ?_
        refine q_ist (lv' := [(9, .int (((8 : Int32) * (((40 : Int32) * x5) + x3)) + x8)), (0, .ref a0), (1, .int x1), (3, .int x3), (5, .int x5), (6, .int x6), (8, .int x8)]) hx hb dX8_addRow_210 hl (by decide) rfl (fun ls hl => ?_)
        refine lv_bipush (v := 32) hx hb dX8_addRow_212 (by decide) ?_
        refine lv_iload hx hb dX8_addRow_214 (q_at hl 5 rfl) ?_
        refine lv_imul hx hb dX8_addRow_216 ?_
        refine lv_iconst (v := 4) hx hb dX8_addRow_217 (by decide) ?_
        refine lv_iload hx hb dX8_addRow_218 (q_at hl 6 rfl) ?_
        refine lv_imul hx hb dX8_addRow_220 ?_
        refine lv_iadd hx hb dX8_addRow_221 ?_
        refine q_ist (lv' := [(10, .int (((32 : Int32) * x6) + ((4 : Int32) * x8))), (9, .int (((8 : Int32) * (((40 : Int32) * x5) + x3)) + x8)), (0, .ref a0), (1, .int x1), (3, .int x3), (5, .int x5), (6, .int x6), (8, .int x8)]) hx hb dX8_addRow_222 hl (by decide) rfl (fun ls hl => ?_)
        refine lv_bipush (v := 7) hx hb dX8_addRow_224 (by decide) ?_
        refine lv_aload_n hx hb dX8_addRow_226 rfl (q_at hl 2 rfl) ?_
        refine q_rGR C hp h rfl iX8_addRow_X8 (by decide) kX8_addRow_32 dX8_addRow_227 (fun r_17 h => ?_)
        refine lv_iload_n hx hb dX8_addRow_230 rfl (q_at hl 3 rfl) ?_
        refine q_rLI C hp h dX8_addRow_231 (fun v_18 h => ?_)
        refine lv_imul hx hb dX8_addRow_232 ?_
        refine lv_bipush (v := 12) hx hb dX8_addRow_233 (by decide) ?_
        refine q_finI0 C hp (q_runS (As := [.int ((7 : Int32) * v_18), .int (12 : Int32)]) (rest := []) C hp (RX8_floorMod l D g _ ((7 : Int32) * v_18) (12 : Int32) _ h _) (va_cwS 2 C.2.2.2.2.1 gX8_addRow_X8_floorMod rfl rfl rfl (by decide +kernel) ⟨(Nat.le_of_ble_eq_true rfl), (Nat.le_of_ble_eq_true rfl)⟩) rfl hl.1.1 rfl (Nat.le_of_ble_eq_true rfl) dX8_addRow_235 ⟨(Nat.le_of_ble_eq_true rfl), (Nat.le_of_ble_eq_true rfl)⟩) rfl rfl (fun v_20 S_19 H locs h hp => ?_)
        refine q_ist (lv' := [(11, .int v_20), (10, .int (((32 : Int32) * x6) + ((4 : Int32) * x8))), (9, .int (((8 : Int32) * (((40 : Int32) * x5) + x3)) + x8)), (0, .ref a0), (1, .int x1), (3, .int x3), (5, .int x5), (6, .int x6), (8, .int x8)]) hx hb dX8_addRow_238 hl (by decide) rfl (fun ls hl => ?_)
        refine lv_aload_n hx hb dX8_addRow_240 rfl (q_at hl 3 rfl) ?_
        refine q_rGR C hp h rfl iX8_addRow_X8 (by decide) kX8_addRow_69 dX8_addRow_241 (fun r_21 h => ?_)
        refine lv_iload hx hb dX8_addRow_244 (q_at hl 1 rfl) ?_
        refine lv_aload_n hx hb dX8_addRow_246 rfl (q_at hl 3 rfl) ?_
        refine q_rGR C hp h rfl iX8_addRow_X8 (by decide) kX8_addRow_13 dX8_addRow_247 (fun r_22 h => ?_)
        refine lv_iload hx hb dX8_addRow_250 (q_at hl 2 rfl) ?_
        refine q_rLI C hp h dX8_addRow_252 (fun v_23 h => ?_)
        refine q_rSI C hp h dX8_addRow_253 (fun S_24 H locs h hp => ?_)
        refine lv_aload_n hx hb dX8_addRow_254 rfl (q_at hl 3 rfl) ?_
        refine q_rGR C hp h rfl iX8_addRow_X8 (by decide) kX8_addRow_69 dX8_addRow_255 (fun r_25 h => ?_)
        refine lv_iload hx hb dX8_addRow_258 (q_at hl 1 rfl) ?_
        refine lv_iconst (v := 1) hx hb dX8_addRow_260 (by decide) ?_
        refine lv_iadd hx hb dX8_addRow_261 ?_
        refine lv_aload_n hx hb dX8_addRow_262 rfl (q_at hl 3 rfl) ?_
        refine q_rGR C hp h rfl iX8_addRow_X8 (by decide) kX8_addRow_16 dX8_addRow_263 (fun r_26 h => ?_)
        refine lv_iload hx hb dX8_addRow_266 (q_at hl 2 rfl) ?_
        refine q_rLI C hp h dX8_addRow_268 (fun v_27 h => ?_)
        refine q_rSI C hp h dX8_addRow_269 (fun S_28 H locs h hp => ?_)
        refine lv_aload_n hx hb dX8_addRow_270 rfl (q_at hl 3 rfl) ?_
        refine q_rGR C hp h rfl iX8_addRow_X8 (by decide) kX8_addRow_69 dX8_addRow_271 (fun r_29 h => ?_)
        refine lv_iload hx hb dX8_addRow_274 (q_at hl 1 rfl) ?_
        refine lv_iconst (v := 2) hx hb dX8_addRow_276 (by decide) ?_
        refine lv_iadd hx hb dX8_addRow_277 ?_
        refine lv_aload_n hx hb dX8_addRow_278 rfl (q_at hl 3 rfl) ?_
        refine q_rGR C hp h rfl iX8_addRow_X8 (by decide) kX8_addRow_19 dX8_addRow_279 (fun r_30 h => ?_)
        refine lv_iload hx hb dX8_addRow_282 (q_at hl 2 rfl) ?_
        refine q_rLI C hp h dX8_addRow_284 (fun v_31 h => ?_)
        refine lv_iload hx hb dX8_addRow_285 (q_at hl 0 rfl) ?_
        refine lv_bipush (v := 6) hx hb dX8_addRow_287 (by decide) ?_
        refine lv_icmp_le (tgt := 300) hx hb dX8_addRow_289 (by decide) (fun c_32 => ?_) (fun c_32 => ?_)
        · replace h := h.1 c_32
          refine lv_iload hx hb dX8_addRow_300 (q_at hl 0 rfl) ?_
          exact j302 (lX8_addRow_b185 Q n) ih185 a0 x1 x3 x5 x6 x8 (((8 : Int32) * (((40 : Int32) * x5) + x3)) + x8) (((32 : Int32) * x6) + ((4 : Int32) * x8)) r_29 ((((32 : Int32) * x6) + ((4 : Int32) * x8)) + (2 : Int32)) v_31 v_20 _ _ _ _ h hp (q_sub hl [3, 4, 5, 6, 7, 8, 2, 1] rfl)
        · replace h := h.2 c_32
          refine lv_iload hx hb dX8_addRow_292 (q_at hl 0 rfl) ?_
          refine lv_bipush (v := 12) hx hb dX8_addRow_294 (by decide) ?_
          refine lv_isub hx hb dX8_addRow_296 ?_
          refine lv_goto (tgt := 302) hx hb dX8_addRow_297 (by decide) ?_
          exact j302 (lX8_addRow_b185 Q n) ih185 a0 x1 x3 x5 x6 x8 (((8 : Int32) * (((40 : Int32) * x5) + x3)) + x8) (((32 : Int32) * x6) + ((4 : Int32) * x8)) r_29 ((((32 : Int32) * x6) + ((4 : Int32) * x8)) + (2 : Int32)) v_31 (v_20 - (12 : Int32)) _ _ _ _ h hp (q_sub hl [3, 4, 5, 6, 7, 8, 2, 1] rfl)
  have j181 : ∀ (a0 : Nat) (x1 : Int32) (x3 : Int32) (x5 : Int32) (x6 : Int32) (b0 : Nat) (y1 : Int32) (y2 : Int32) (S : q_S) (H : Heap) (locs : List Loc) (ls : Array Slot), wX8_addRow_b181 Q a0 x1 x3 x5 x6 b0 y1 y2 S → q_P D g A s.heap S H locs → q_l ls 13 [(0, .ref a0), (1, .int x1), (3, .int x3), (5, .int x5), (6, .int x6)] → W p l e rmX8_addRow s m args below meth c H locs 0 0 (MQ below (va_Qv Q (q_B D g A) A) args s rmX8_addRow.cells rmX8_addRow.slots A) (F0 m 181 ls [.int y2, .int y1, .ref b0]) := by
    intro a0 x1 x3 x5 x6 b0 y1 y2 S H locs ls h hp hl
    unfold wX8_addRow_b181 at h
    refine q_rSI C hp h dX8_addRow_181 (fun S_33 H locs h hp => ?_)
    refine lv_iconst (v := 0) hx hb dX8_addRow_182 (by decide) ?_
    refine q_ist (lv' := [(8, .int (0 : Int32)), (0, .ref a0), (1, .int x1), (3, .int x3), (5, .int x5), (6, .int x6)]) hx hb dX8_addRow_183 hl (by decide) rfl (fun ls hl => ?_)
    exact j185 q_fuel a0 x1 x3 x5 x6 (0 : Int32) _ _ _ _ h hp (q_sub hl [1, 2, 3, 4, 5, 0] rfl)
  have j150 : ∀ (a0 : Nat) (x1 : Int32) (x3 : Int32) (x5 : Int32) (x6 : Int32) (b0 : Nat) (y1 : Int32) (y2 : Int32) (y3 : Int32) (S : q_S) (H : Heap) (locs : List Loc) (ls : Array Slot), wX8_addRow_b150 Q a0 x1 x3 x5 x6 b0 y1 y2 y3 S → q_P D g A s.heap S H locs → q_l ls 13 [(0, .ref a0), (1, .int x1), (3, .int x3), (5, .int x5), (6, .int x6)] → W p l e rmX8_addRow s m args below meth c H locs 0 0 (MQ below (va_Qv Q (q_B D g A) A) args s rmX8_addRow.cells rmX8_addRow.slots A) (F0 m 150 ls [.int y3, .int y2, .int y1, .ref b0]) := by
    intro a0 x1 x3 x5 x6 b0 y1 y2 y3 S H locs ls h hp hl
    unfold wX8_addRow_b150 at h
    refine lv_iadd hx hb dX8_addRow_150 ?_
    refine q_rSI C hp h dX8_addRow_151 (fun S_34 H locs h hp => ?_)
    refine lv_aload_n hx hb dX8_addRow_152 rfl (q_at hl 0 rfl) ?_
    refine q_rGR C hp h rfl iX8_addRow_X8 (by decide) kX8_addRow_66 dX8_addRow_153 (fun r_35 h => ?_)
    refine lv_iload hx hb dX8_addRow_156 (q_at hl 4 rfl) ?_
    refine lv_iload hx hb dX8_addRow_158 (q_at hl 3 rfl) ?_
    refine lv_bipush (v := (-100)) hx hb dX8_addRow_160 (by decide) ?_
    refine lv_icmp_ne (tgt := 169) hx hb dX8_addRow_162 (by decide) (fun c_36 => ?_) (fun c_36 => ?_)
    · replace h := h.1 c_36
      refine lv_aload_n hx hb dX8_addRow_169 rfl (q_at hl 0 rfl) ?_
      refine q_rGR C hp h rfl iX8_addRow_X8 (by decide) kX8_addRow_7 dX8_addRow_170 (fun r_37 h => ?_)
      refine lv_bipush (v := 40) hx hb dX8_addRow_173 (by decide) ?_
      refine lv_iload hx hb dX8_addRow_175 (q_at hl 3 rfl) ?_
      refine lv_imul hx hb dX8_addRow_177 ?_
      refine lv_iload_n hx hb dX8_addRow_178 rfl (q_at hl 2 rfl) ?_
      refine lv_iadd hx hb dX8_addRow_179 ?_
      refine q_rLI C hp h dX8_addRow_180 (fun v_38 h => ?_)
      exact j181 a0 x1 x3 x5 x6 r_35 x6 v_38 _ _ _ _ h hp (q_sub hl [0, 1, 2, 3, 4] rfl)
    · replace h := h.2 c_36
      refine lv_iconst (v := 0) hx hb dX8_addRow_165 (by decide) ?_
      refine lv_goto (tgt := 181) hx hb dX8_addRow_166 (by decide) ?_
      exact j181 a0 x1 x3 x5 x6 r_35 x6 (0 : Int32) _ _ _ _ h hp (q_sub hl [0, 1, 2, 3, 4] rfl)
  have j127 : ∀ (a0 : Nat) (x1 : Int32) (x3 : Int32) (x5 : Int32) (x6 : Int32) (y0 : Int32) (S : q_S) (H : Heap) (locs : List Loc) (ls : Array Slot), wX8_addRow_b127 Q a0 x1 x3 x5 x6 y0 S → q_P D g A s.heap S H locs → q_l ls 13 [(0, .ref a0), (1, .int x1), (3, .int x3), (5, .int x5), (6, .int x6)] → W p l e rmX8_addRow s m args below meth c H locs 0 0 (MQ below (va_Qv Q (q_B D g A) A) args s rmX8_addRow.cells rmX8_addRow.slots A) (F0 m 127 ls [.int y0]) := by
    intro a0 x1 x3 x5 x6 y0 S H locs ls h hp hl
    unfold wX8_addRow_b127 at h
    refine q_ist (lv' := [(7, .int y0), (0, .ref a0), (1, .int x1), (3, .int x3), (5, .int x5), (6, .int x6)]) hx hb dX8_addRow_127 hl (by decide) rfl (fun ls hl => ?_)
    refine lv_aload_n hx hb dX8_addRow_129 rfl (q_at hl 1 rfl) ?_
    refine q_rGR C hp h rfl iX8_addRow_X8 (by decide) kX8_addRow_57 dX8_addRow_130 (fun r_39 h => ?_)
    refine lv_iload hx hb dX8_addRow_133 (q_at hl 5 rfl) ?_
    refine lv_iload hx hb dX8_addRow_135 (q_at hl 0 rfl) ?_
    refine lv_aload_n hx hb dX8_addRow_137 rfl (q_at hl 1 rfl) ?_
    refine lv_iload_n hx hb dX8_addRow_138 rfl (q_at hl 3 rfl) ?_
    refine q_finI0 C hp (q_runV (As := [.int x3]) (rest := [.int y0, .int x6, .ref r_39]) C hp (RX8_isNeeded l D g _ a0 x3 _ h _) (cwV 1 C.2.2.2.2.1 gX8_addRow_X8_isNeeded rfl rfl rfl (by decide +kernel) ⟨(Nat.le_of_ble_eq_true rfl), (Nat.le_of_ble_eq_true rfl)⟩) h.1 rfl rfl hl.1.1 rfl (Nat.le_of_ble_eq_true rfl) dX8_addRow_139 ⟨(Nat.le_of_ble_eq_true rfl), (Nat.le_of_ble_eq_true rfl)⟩) rfl rfl (fun v_41 S_40 H locs h hp => ?_)
    refine lv_if_eq (tgt := 149) hx hb dX8_addRow_142 (by decide) (fun c_42 => ?_) (fun c_42 => ?_)
    · replace h := h.1 c_42
      refine lv_iconst (v := 0) hx hb dX8_addRow_149 (by decide) ?_
      exact j150 a0 x1 x3 x5 x6 r_39 x6 y0 (0 : Int32) _ _ _ _ h hp (q_sub hl [1, 2, 3, 4, 5] rfl)
    · replace h := h.2 c_42
      refine lv_iconst (v := 1) hx hb dX8_addRow_145 (by decide) ?_
      refine lv_goto (tgt := 150) hx hb dX8_addRow_146 (by decide) ?_
      exact j150 a0 x1 x3 x5 x6 r_39 x6 y0 (1 : Int32) _ _ _ _ h hp (q_sub hl [1, 2, 3, 4, 5] rfl)
  have j67 : ∀ (a0 : Nat) (x1 : Int32) (x2 : Int32) (x3 : Int32) (x5 : Int32) (x6 : Int32) (b0 : Nat) (y1 : Int32) (y2 : Int32) (S : q_S) (H : Heap) (locs : List Loc) (ls : Array Slot), wX8_addRow_b67 Q a0 x1 x2 x3 x5 x6 b0 y1 y2 S → q_P D g A s.heap S H locs → q_l ls 13 [(0, .ref a0), (1, .int x1), (2, .int x2), (3, .int x3), (5, .int x5), (6, .int x6)] → W p l e rmX8_addRow s m args below meth c H locs 0 0 (MQ below (va_Qv Q (q_B D g A) A) args s rmX8_addRow.cells rmX8_addRow.slots A) (F0 m 67 ls [.int y2, .int y1, .ref b0]) := by
    intro a0 x1 x2 x3 x5 x6 b0 y1 y2 S H locs ls h hp hl
    unfold wX8_addRow_b67 at h
    refine q_rSI C hp h dX8_addRow_67 (fun S_43 H locs h hp => ?_)
    refine lv_aload_n hx hb dX8_addRow_68 rfl (q_at hl 0 rfl) ?_
    refine q_rGR C hp h rfl iX8_addRow_X8 (by decide) kX8_addRow_60 dX8_addRow_69 (fun r_44 h => ?_)
    refine lv_iload hx hb dX8_addRow_72 (q_at hl 5 rfl) ?_
    refine lv_aload_n hx hb dX8_addRow_74 rfl (q_at hl 0 rfl) ?_
    refine lv_iload_n hx hb dX8_addRow_75 rfl (q_at hl 1 rfl) ?_
    refine lv_iload_n hx hb dX8_addRow_76 rfl (q_at hl 3 rfl) ?_
    refine q_finI0 C hp (q_runV (As := [.int x1, .int x3]) (rest := [.int x6, .ref r_44]) C hp (RX8_writtenKey l D g _ a0 x1 x3 _ h _) (cwV 2 C.2.2.2.2.1 gX8_addRow_X8_writtenKey rfl rfl rfl (by decide +kernel) ⟨(Nat.le_of_ble_eq_true rfl), (Nat.le_of_ble_eq_true rfl)⟩) h.1 rfl rfl hl.1.1 rfl (Nat.le_of_ble_eq_true rfl) dX8_addRow_77 ⟨(Nat.le_of_ble_eq_true rfl), (Nat.le_of_ble_eq_true rfl)⟩) rfl rfl (fun v_46 S_45 H locs h hp => ?_)
    refine q_rSI C hp h dX8_addRow_80 (fun S_47 H locs h hp => ?_)
    refine lv_iload_n hx hb dX8_addRow_81 rfl (q_at hl 2 rfl) ?_
    refine lv_if_ne (tgt := 96) hx hb dX8_addRow_82 (by decide) (fun c_48 => ?_) (fun c_48 => ?_)
    · replace h := h.1 c_48
      refine lv_iload_n hx hb dX8_addRow_96 rfl (q_at hl 2 rfl) ?_
      refine lv_iconst (v := 1) hx hb dX8_addRow_97 (by decide) ?_
      refine lv_icmp_ne (tgt := 105) hx hb dX8_addRow_98 (by decide) (fun c_49 => ?_) (fun c_49 => ?_)
      · replace h := h.1 c_49
        refine lv_iload_n hx hb dX8_addRow_105 rfl (q_at hl 2 rfl) ?_
        refine lv_iconst (v := 2) hx hb dX8_addRow_106 (by decide) ?_
        refine lv_icmp_ne (tgt := 126) hx hb dX8_addRow_107 (by decide) (fun c_50 => ?_) (fun c_50 => ?_)
        · replace h := h.1 c_50
          refine lv_iconst (v := 4) hx hb dX8_addRow_126 (by decide) ?_
          exact j127 a0 x1 x3 x5 x6 (4 : Int32) _ _ _ _ h hp (q_sub hl [0, 1, 3, 4, 5] rfl)
        · replace h := h.2 c_50
          refine lv_iconst (v := 1) hx hb dX8_addRow_110 (by decide) ?_
          refine lv_aload_n hx hb dX8_addRow_111 rfl (q_at hl 0 rfl) ?_
          refine lv_iload hx hb dX8_addRow_112 (q_at hl 4 rfl) ?_
          refine lv_iload_n hx hb dX8_addRow_114 rfl (q_at hl 3 rfl) ?_
          refine q_finI0 C hp (q_runV (As := [.int x5, .int x3]) (rest := [.int (1 : Int32)]) C hp (RX8_unlikeStarts l D g _ a0 x5 x3 _ h _) (cwV 2 C.2.2.2.2.1 gX8_addRow_X8_unlikeStarts rfl rfl rfl (by decide +kernel) ⟨(Nat.le_of_ble_eq_true rfl), (Nat.le_of_ble_eq_true rfl)⟩) h.1 rfl rfl hl.1.1 rfl (Nat.le_of_ble_eq_true rfl) dX8_addRow_115 ⟨(Nat.le_of_ble_eq_true rfl), (Nat.le_of_ble_eq_true rfl)⟩) rfl rfl (fun v_52 S_51 H locs h hp => ?_)
          refine lv_iconst (v := 1) hx hb dX8_addRow_118 (by decide) ?_
          refine lv_iadd hx hb dX8_addRow_119 ?_
          refine lv_iconst (v := 2) hx hb dX8_addRow_120 (by decide) ?_
          refine lv_idiv hx hb dX8_addRow_121 (by decide) ?_
          refine lv_iadd hx hb dX8_addRow_122 ?_
          refine lv_goto (tgt := 127) hx hb dX8_addRow_123 (by decide) ?_
          exact j127 a0 x1 x3 x5 x6 ((1 : Int32) + ((v_52 + (1 : Int32)) / (2 : Int32))) _ _ _ _ h hp (q_sub hl [0, 1, 3, 4, 5] rfl)
      · replace h := h.2 c_49
        refine lv_iconst (v := 2) hx hb dX8_addRow_101 (by decide) ?_
        refine lv_goto (tgt := 127) hx hb dX8_addRow_102 (by decide) ?_
        exact j127 a0 x1 x3 x5 x6 (2 : Int32) _ _ _ _ h hp (q_sub hl [0, 1, 3, 4, 5] rfl)
    · replace h := h.2 c_48
      refine lv_iconst (v := 1) hx hb dX8_addRow_85 (by decide) ?_
      refine lv_aload_n hx hb dX8_addRow_86 rfl (q_at hl 0 rfl) ?_
      refine lv_iload_n hx hb dX8_addRow_87 rfl (q_at hl 1 rfl) ?_
      refine lv_iload_n hx hb dX8_addRow_88 rfl (q_at hl 3 rfl) ?_
      refine q_finI0 C hp (q_runV (As := [.int x1, .int x3]) (rest := [.int (1 : Int32)]) C hp (RX8_unlikeStarts l D g _ a0 x1 x3 _ h _) (cwV 2 C.2.2.2.2.1 gX8_addRow_X8_unlikeStarts rfl rfl rfl (by decide +kernel) ⟨(Nat.le_of_ble_eq_true rfl), (Nat.le_of_ble_eq_true rfl)⟩) h.1 rfl rfl hl.1.1 rfl (Nat.le_of_ble_eq_true rfl) dX8_addRow_89 ⟨(Nat.le_of_ble_eq_true rfl), (Nat.le_of_ble_eq_true rfl)⟩) rfl rfl (fun v_54 S_53 H locs h hp => ?_)
      refine lv_iadd hx hb dX8_addRow_92 ?_
      refine lv_goto (tgt := 127) hx hb dX8_addRow_93 (by decide) ?_
      exact j127 a0 x1 x3 x5 x6 ((1 : Int32) + v_54) _ _ _ _ h hp (q_sub hl [0, 1, 3, 4, 5] rfl)
  unfold wX8_addRow at h
  replace h := h.2
  refine lv_sipush (v := 240) hx hb dX8_addRow_0 (by decide) ?_
  refine lv_aload_n hx hb dX8_addRow_3 rfl (q_at hl 0 rfl) ?_
  refine q_rGR C hp h rfl iX8_addRow_X8 (by decide) kX8_addRow_45 dX8_addRow_4 (fun r_55 h => ?_)
  refine lv_bipush (v := 6) hx hb dX8_addRow_7 (by decide) ?_
  refine q_rLI C hp h dX8_addRow_9 (fun v_56 h => ?_)
  refine lv_iadd hx hb dX8_addRow_10 ?_
  refine q_ist (lv' := [(6, .int ((240 : Int32) + v_56)), (0, .ref a0), (1, .int x1), (2, .int x2), (3, .int x3), (4, .int x4), (5, .int x5)]) hx hb dX8_addRow_11 hl (by decide) rfl (fun ls hl => ?_)
  refine lv_aload_n hx hb dX8_addRow_13 rfl (q_at hl 1 rfl) ?_
  refine q_rGR C hp h rfl iX8_addRow_X8 (by decide) kX8_addRow_45 dX8_addRow_14 (fun r_57 h => ?_)
  refine lv_bipush (v := 6) hx hb dX8_addRow_17 (by decide) ?_
  refine lv_dup2_11 hx hb dX8_addRow_19 rfl rfl ?_
  refine q_rLI C hp h dX8_addRow_20 (fun v_58 h => ?_)
  refine lv_iconst (v := 1) hx hb dX8_addRow_21 (by decide) ?_
  refine lv_iadd hx hb dX8_addRow_22 ?_
  refine q_rSI C hp h dX8_addRow_23 (fun S_59 H locs h hp => ?_)
  refine lv_aload_n hx hb dX8_addRow_24 rfl (q_at hl 1 rfl) ?_
  refine q_rGR C hp h rfl iX8_addRow_X8 (by decide) kX8_addRow_48 dX8_addRow_25 (fun r_60 h => ?_)
  refine lv_iload hx hb dX8_addRow_28 (q_at hl 0 rfl) ?_
  refine lv_iload_n hx hb dX8_addRow_30 rfl (q_at hl 3 rfl) ?_
  refine q_rSI C hp h dX8_addRow_31 (fun S_61 H locs h hp => ?_)
  refine lv_aload_n hx hb dX8_addRow_32 rfl (q_at hl 1 rfl) ?_
  refine q_rGR C hp h rfl iX8_addRow_X8 (by decide) kX8_addRow_51 dX8_addRow_33 (fun r_62 h => ?_)
  refine lv_iload hx hb dX8_addRow_36 (q_at hl 0 rfl) ?_
  refine lv_iload_n hx hb dX8_addRow_38 rfl (q_at hl 4 rfl) ?_
  refine q_rSI C hp h dX8_addRow_39 (fun S_63 H locs h hp => ?_)
  refine lv_aload_n hx hb dX8_addRow_40 rfl (q_at hl 1 rfl) ?_
  refine q_rGR C hp h rfl iX8_addRow_X8 (by decide) kX8_addRow_54 dX8_addRow_41 (fun r_64 h => ?_)
  refine lv_iload hx hb dX8_addRow_44 (q_at hl 0 rfl) ?_
  refine lv_iload hx hb dX8_addRow_46 (q_at hl 5 rfl) ?_
  refine q_rSI C hp h dX8_addRow_48 (fun S_65 H locs h hp => ?_)
  refine lv_aload_n hx hb dX8_addRow_49 rfl (q_at hl 1 rfl) ?_
  refine q_rGR C hp h rfl iX8_addRow_X8 (by decide) kX8_addRow_63 dX8_addRow_50 (fun r_66 h => ?_)
  refine lv_iload hx hb dX8_addRow_53 (q_at hl 0 rfl) ?_
  refine lv_iload_n hx hb dX8_addRow_55 rfl (q_at hl 3 rfl) ?_
  refine lv_iconst (v := 2) hx hb dX8_addRow_56 (by decide) ?_
  refine lv_icmp_ne (tgt := 65) hx hb dX8_addRow_57 (by decide) (fun c_67 => ?_) (fun c_67 => ?_)
  · replace h := h.1 c_67
    refine lv_bipush (v := (-100)) hx hb dX8_addRow_65 (by decide) ?_
    exact j67 a0 x1 x2 x3 x5 ((240 : Int32) + v_56) r_66 ((240 : Int32) + v_56) (-100 : Int32) _ _ _ _ h hp (q_sub hl [1, 2, 3, 4, 6, 0] rfl)
  · replace h := h.2 c_67
    refine lv_iload hx hb dX8_addRow_60 (q_at hl 6 rfl) ?_
    refine lv_goto (tgt := 67) hx hb dX8_addRow_62 (by decide) ?_
    exact j67 a0 x1 x2 x3 x5 ((240 : Int32) + v_56) r_66 ((240 : Int32) + v_56) x5 _ _ _ _ h hp (q_sub hl [1, 2, 3, 4, 6, 0] rfl)
theorem kX8_isTacet_112 : Cond.fieldLink RX8 112 (TX8 1).1 (TX8 1).2.1 (TX8 1).2.2.1 ∈ wsX8_isTacet := by decide +kernel
theorem iX8_isTacet_X8 : ∀ w ∈ u_ws RX8 TX8 36, w ∈ wsX8_isTacet := by decide +kernel
set_option maxHeartbeats 4000000 in
set_option maxRecDepth 100000 in
theorem RX8_isTacet (l : Launch) (D : va_G) (g : q_A) (S : q_S) (a0 : Nat) (x1 : Int32) (Q : Int32 → q_S → Prop) (h : wX8_isTacet a0 x1 Q S) : q_Mi l yX8_isTacet wsX8_isTacet rmX8_isTacet D g [.ref a0, .int x1] S Q := by
  refine q_Mi.of (cc := cX8_isTacet) (nL := 4) (rt := .boolean) (by decide +kernel) rfl (Nat.le_of_ble_eq_true rfl) rfl ?_
  intro p e s m args below meth c ls A C hr hnm hp hl
  have C : q_X p s m args meth c cX8_isTacet 4 RX8 wsX8_isTacet D g A := C
  have hx := C.1
  have hb := C.2.1
  have hl : q_l ls 4 [(0, .ref a0), (1, .int x1)] := hl
  have j30 : ∀ (k4 : Nat → Int32 → Int32 → Int32 → q_S → Prop) (ih4 : ∀ (a0 : Nat) (x1 : Int32) (x2 : Int32) (x3 : Int32) (S : q_S) (H : Heap) (locs : List Loc) (ls : Array Slot), k4 a0 x1 x2 x3 S → q_P D g A s.heap S H locs → q_l ls 4 [(0, .ref a0), (1, .int x1), (2, .int x2), (3, .int x3)] → W p l e rmX8_isTacet s m args below meth c H locs 0 0 (MQ below (va_Qi Q (q_B D g A) A) args s rmX8_isTacet.cells rmX8_isTacet.slots A) (F0 m 4 ls [])) (a0 : Nat) (x1 : Int32) (x3 : Int32) (y0 : Int32) (S : q_S) (H : Heap) (locs : List Loc) (ls : Array Slot), wX8_isTacet_b30 Q k4 a0 x1 x3 y0 S → q_P D g A s.heap S H locs → q_l ls 4 [(0, .ref a0), (1, .int x1), (3, .int x3)] → W p l e rmX8_isTacet s m args below meth c H locs 0 0 (MQ below (va_Qi Q (q_B D g A) A) args s rmX8_isTacet.cells rmX8_isTacet.slots A) (F0 m 30 ls [.int y0]) := by
    intro k4 ih4 a0 x1 x3 y0 S H locs ls h hp hl
    unfold wX8_isTacet_b30 at h
    refine q_istn (lv' := [(2, .int y0), (0, .ref a0), (1, .int x1), (3, .int x3)]) hx hb dX8_isTacet_30 rfl hl (by decide) rfl (fun ls hl => ?_)
    refine q_inc (x := x3) (v := (x3 + (1 : Int32))) (lv' := [(3, .int (x3 + (1 : Int32))), (2, .int y0), (0, .ref a0), (1, .int x1)]) hx hb dX8_isTacet_31 hl (k := 3) rfl rfl (by decide) rfl (fun ls hl => ?_)
    refine lv_goto (tgt := 4) hx hb dX8_isTacet_34 (by decide) ?_
    exact ih4 a0 x1 y0 (x3 + (1 : Int32)) _ _ _ _ h hp (q_sub hl [2, 3, 1, 0] rfl)
  have j29 : ∀ (k4 : Nat → Int32 → Int32 → Int32 → q_S → Prop) (ih4 : ∀ (a0 : Nat) (x1 : Int32) (x2 : Int32) (x3 : Int32) (S : q_S) (H : Heap) (locs : List Loc) (ls : Array Slot), k4 a0 x1 x2 x3 S → q_P D g A s.heap S H locs → q_l ls 4 [(0, .ref a0), (1, .int x1), (2, .int x2), (3, .int x3)] → W p l e rmX8_isTacet s m args below meth c H locs 0 0 (MQ below (va_Qi Q (q_B D g A) A) args s rmX8_isTacet.cells rmX8_isTacet.slots A) (F0 m 4 ls [])) (a0 : Nat) (x1 : Int32) (x3 : Int32) (S : q_S) (H : Heap) (locs : List Loc) (ls : Array Slot), wX8_isTacet_b29 Q k4 a0 x1 x3 S → q_P D g A s.heap S H locs → q_l ls 4 [(0, .ref a0), (1, .int x1), (3, .int x3)] → W p l e rmX8_isTacet s m args below meth c H locs 0 0 (MQ below (va_Qi Q (q_B D g A) A) args s rmX8_isTacet.cells rmX8_isTacet.slots A) (F0 m 29 ls []) := by
    intro k4 ih4 a0 x1 x3 S H locs ls h hp hl
    unfold wX8_isTacet_b29 at h
    refine lv_iconst (v := 0) hx hb dX8_isTacet_29 (by decide) ?_
    exact j30 k4 ih4 a0 x1 x3 (0 : Int32) _ _ _ _ h hp (q_sub hl [0, 1, 2] rfl)
  have j4 : ∀ (n : Nat), ∀ (a0 : Nat) (x1 : Int32) (x2 : Int32) (x3 : Int32) (S : q_S) (H : Heap) (locs : List Loc) (ls : Array Slot), lX8_isTacet_b4 Q n a0 x1 x2 x3 S → q_P D g A s.heap S H locs → q_l ls 4 [(0, .ref a0), (1, .int x1), (2, .int x2), (3, .int x3)] → W p l e rmX8_isTacet s m args below meth c H locs 0 0 (MQ below (va_Qi Q (q_B D g A) A) args s rmX8_isTacet.cells rmX8_isTacet.slots A) (F0 m 4 ls []) := by
    intro n
    induction n with
    | zero => intro a0 x1 x2 x3 S H locs ls h; exact absurd h (fun h => h)
    | succ n ih4 =>
      intro a0 x1 x2 x3 S H locs ls h hp hl
      have h : wX8_isTacet_b4 Q (lX8_isTacet_b4 Q n) a0 x1 x2 x3 S := h
      unfold wX8_isTacet_b4 at h
      refine lv_iload_n hx hb dX8_isTacet_4 rfl (q_at hl 3 rfl) ?_
      refine lv_aload_n hx hb dX8_isTacet_5 rfl (q_at hl 0 rfl) ?_
      refine q_rGI C hp h rfl iX8_isTacet_X8 (by decide) kX8_isTacet_112 dX8_isTacet_6 (fun v_1 h => ?_)
      refine lv_icmp_ge (tgt := 37) hx hb dX8_isTacet_9 (by decide) (fun c_2 => ?_) (fun c_2 => ?_)
      · replace h := h.1 c_2
        refine lv_iload_n hx hb dX8_isTacet_37 rfl (q_at hl 2 rfl) ?_
        exact q_zret C hp hr h dX8_isTacet_38
      · replace h := h.2 c_2
        refine lv_iload_n hx hb dX8_isTacet_12 rfl (q_at hl 2 rfl) ?_
        refine lv_if_eq (tgt := 29) hx hb dX8_isTacet_13 (by decide) (fun c_3 => ?_) (fun c_3 => ?_)
        · replace h := h.1 c_3
          exact j29 (lX8_isTacet_b4 Q n) ih4 a0 x1 x3 _ _ _ _ h hp (q_sub hl [0, 1, 3] rfl)
        · replace h := h.2 c_3
          refine lv_aload_n hx hb dX8_isTacet_16 rfl (q_at hl 0 rfl) ?_
          refine lv_iload_n hx hb dX8_isTacet_17 rfl (q_at hl 1 rfl) ?_
          refine lv_iload_n hx hb dX8_isTacet_18 rfl (q_at hl 3 rfl) ?_
          refine q_finI0 C hp (q_runV (As := [.int x1, .int x3]) (rest := []) C hp (RX8_isEmpty l D g _ a0 x1 x3 _ h _) (cwV 2 C.2.2.2.2.1 gX8_isTacet_X8_isEmpty rfl rfl rfl (by decide +kernel) ⟨(Nat.le_of_ble_eq_true rfl), (Nat.le_of_ble_eq_true rfl)⟩) h.1 rfl rfl hl.1.1 rfl (Nat.le_of_ble_eq_true rfl) dX8_isTacet_19 ⟨(Nat.le_of_ble_eq_true rfl), (Nat.le_of_ble_eq_true rfl)⟩) rfl rfl (fun v_5 S_4 H locs h hp => ?_)
          refine lv_if_eq (tgt := 29) hx hb dX8_isTacet_22 (by decide) (fun c_6 => ?_) (fun c_6 => ?_)
          · replace h := h.1 c_6
            exact j29 (lX8_isTacet_b4 Q n) ih4 a0 x1 x3 _ _ _ _ h hp (q_sub hl [0, 1, 3] rfl)
          · replace h := h.2 c_6
            refine lv_iconst (v := 1) hx hb dX8_isTacet_25 (by decide) ?_
            refine lv_goto (tgt := 30) hx hb dX8_isTacet_26 (by decide) ?_
            exact j30 (lX8_isTacet_b4 Q n) ih4 a0 x1 x3 (1 : Int32) _ _ _ _ h hp (q_sub hl [0, 1, 3] rfl)
  unfold wX8_isTacet at h
  replace h := h.2
  refine lv_iconst (v := 1) hx hb dX8_isTacet_0 (by decide) ?_
  refine q_istn (lv' := [(2, .int (1 : Int32)), (0, .ref a0), (1, .int x1)]) hx hb dX8_isTacet_1 rfl hl (by decide) rfl (fun ls hl => ?_)
  refine lv_iconst (v := 0) hx hb dX8_isTacet_2 (by decide) ?_
  refine q_istn (lv' := [(3, .int (0 : Int32)), (2, .int (1 : Int32)), (0, .ref a0), (1, .int x1)]) hx hb dX8_isTacet_3 rfl hl (by decide) rfl (fun ls hl => ?_)
  exact j4 q_fuel a0 x1 (1 : Int32) (0 : Int32) _ _ _ _ h hp (q_sub hl [2, 3, 1, 0] rfl)
theorem kX8_make_45 : Cond.fieldLink RX8 45 (TX8 13).1 (TX8 13).2.1 (TX8 13).2.2.1 ∈ wsX8_make := by decide +kernel
theorem kX8_make_112 : Cond.fieldLink RX8 112 (TX8 1).1 (TX8 1).2.1 (TX8 1).2.2.1 ∈ wsX8_make := by decide +kernel
theorem iX8_make_X8 : ∀ w ∈ u_ws RX8 TX8 36, w ∈ wsX8_make := by decide +kernel
set_option maxHeartbeats 4000000 in
set_option maxRecDepth 100000 in
theorem RX8_make (l : Launch) (D : va_G) (g : q_A) (S : q_S) (a0 : Nat) (x1 : Int32) (Q : q_S → Prop) (h : wX8_make a0 x1 Q S) : q_Mv l yX8_make wsX8_make rmX8_make D g [.ref a0, .int x1] S Q := by
  refine q_Mv.of (cc := cX8_make) (nL := 5) (by decide +kernel) rfl (Nat.le_of_ble_eq_true rfl) rfl ?_
  intro p e s m args below meth c ls A C hr hnm hp hl
  have C : q_X p s m args meth c cX8_make 5 RX8 wsX8_make D g A := C
  have hx := C.1
  have hb := C.2.1
  have hl : q_l ls 5 [(0, .ref a0), (1, .int x1)] := hl
  have j166 : ∀ (k39 : Nat → Int32 → Int32 → q_S → Prop) (ih39 : ∀ (a0 : Nat) (x1 : Int32) (x2 : Int32) (S : q_S) (H : Heap) (locs : List Loc) (ls : Array Slot), k39 a0 x1 x2 S → q_P D g A s.heap S H locs → q_l ls 5 [(0, .ref a0), (1, .int x1), (2, .int x2)] → W p l e rmX8_make s m args below meth c H locs 0 0 (MQ below (va_Qv Q (q_B D g A) A) args s rmX8_make.cells rmX8_make.slots A) (F0 m 39 ls [])) (a0 : Nat) (x1 : Int32) (x2 : Int32) (S : q_S) (H : Heap) (locs : List Loc) (ls : Array Slot), wX8_make_b166 Q k39 a0 x1 x2 S → q_P D g A s.heap S H locs → q_l ls 5 [(0, .ref a0), (1, .int x1), (2, .int x2)] → W p l e rmX8_make s m args below meth c H locs 0 0 (MQ below (va_Qv Q (q_B D g A) A) args s rmX8_make.cells rmX8_make.slots A) (F0 m 166 ls []) := by
    intro k39 ih39 a0 x1 x2 S H locs ls h hp hl
    unfold wX8_make_b166 at h
    refine lv_goto (tgt := 39) hx hb dX8_make_166 (by decide) ?_
    exact ih39 a0 x1 x2 _ _ _ _ h hp (q_sub hl [0, 1, 2] rfl)
  have j150 : ∀ (k39 : Nat → Int32 → Int32 → q_S → Prop) (ih39 : ∀ (a0 : Nat) (x1 : Int32) (x2 : Int32) (S : q_S) (H : Heap) (locs : List Loc) (ls : Array Slot), k39 a0 x1 x2 S → q_P D g A s.heap S H locs → q_l ls 5 [(0, .ref a0), (1, .int x1), (2, .int x2)] → W p l e rmX8_make s m args below meth c H locs 0 0 (MQ below (va_Qv Q (q_B D g A) A) args s rmX8_make.cells rmX8_make.slots A) (F0 m 39 ls [])) (a0 : Nat) (x1 : Int32) (x2 : Int32) (x4 : Int32) (S : q_S) (H : Heap) (locs : List Loc) (ls : Array Slot), wX8_make_b150 Q k39 a0 x1 x2 x4 S → q_P D g A s.heap S H locs → q_l ls 5 [(0, .ref a0), (1, .int x1), (2, .int x2), (4, .int x4)] → W p l e rmX8_make s m args below meth c H locs 0 0 (MQ below (va_Qv Q (q_B D g A) A) args s rmX8_make.cells rmX8_make.slots A) (F0 m 150 ls []) := by
    intro k39 ih39 a0 x1 x2 x4 S H locs ls h hp hl
    unfold wX8_make_b150 at h
    refine lv_aload_n hx hb dX8_make_150 rfl (q_at hl 0 rfl) ?_
    refine lv_iload_n hx hb dX8_make_151 rfl (q_at hl 1 rfl) ?_
    refine lv_iconst (v := 1) hx hb dX8_make_152 (by decide) ?_
    refine lv_iload_n hx hb dX8_make_153 rfl (q_at hl 2 rfl) ?_
    refine lv_iload hx hb dX8_make_154 (q_at hl 3 rfl) ?_
    refine lv_iload_n hx hb dX8_make_156 rfl (q_at hl 2 rfl) ?_
    refine lv_isub hx hb dX8_make_157 ?_
    refine lv_bipush (v := (-100)) hx hb dX8_make_158 (by decide) ?_
    refine q_finV0 C hp (q_runV (As := [.int x1, .int (1 : Int32), .int x2, .int (x4 - x2), .int (-100 : Int32)]) (rest := []) C hp (RX8_addRow l D g _ a0 x1 (1 : Int32) x2 (x4 - x2) (-100 : Int32) _ h _) (cwV 5 C.2.2.2.2.1 gX8_make_X8_addRow rfl rfl rfl (by decide +kernel) ⟨(Nat.le_of_ble_eq_true rfl), (Nat.le_of_ble_eq_true rfl)⟩) h.1 rfl rfl hl.1.1 rfl (Nat.le_of_ble_eq_true rfl) dX8_make_160 ⟨(Nat.le_of_ble_eq_true rfl), (Nat.le_of_ble_eq_true rfl)⟩) rfl rfl (fun S_1 H locs h hp => ?_)
    refine lv_iload hx hb dX8_make_163 (q_at hl 3 rfl) ?_
    refine q_istn (lv' := [(2, .int x4), (0, .ref a0), (1, .int x1), (4, .int x4)]) hx hb dX8_make_165 rfl hl (by decide) rfl (fun ls hl => ?_)
    exact j166 k39 ih39 a0 x1 x4 _ _ _ _ h hp (q_sub hl [1, 2, 0] rfl)
  have j104 : ∀ (k39 : Nat → Int32 → Int32 → q_S → Prop) (ih39 : ∀ (a0 : Nat) (x1 : Int32) (x2 : Int32) (S : q_S) (H : Heap) (locs : List Loc) (ls : Array Slot), k39 a0 x1 x2 S → q_P D g A s.heap S H locs → q_l ls 5 [(0, .ref a0), (1, .int x1), (2, .int x2)] → W p l e rmX8_make s m args below meth c H locs 0 0 (MQ below (va_Qv Q (q_B D g A) A) args s rmX8_make.cells rmX8_make.slots A) (F0 m 39 ls [])) (n : Nat), ∀ (a0 : Nat) (x1 : Int32) (x2 : Int32) (x4 : Int32) (S : q_S) (H : Heap) (locs : List Loc) (ls : Array Slot), lX8_make_b104 Q k39 n a0 x1 x2 x4 S → q_P D g A s.heap S H locs → q_l ls 5 [(0, .ref a0), (1, .int x1), (2, .int x2), (4, .int x4)] → W p l e rmX8_make s m args below meth c H locs 0 0 (MQ below (va_Qv Q (q_B D g A) A) args s rmX8_make.cells rmX8_make.slots A) (F0 m 104 ls []) := by
    intro k39 ih39
    intro n
    induction n with
    | zero => intro a0 x1 x2 x4 S H locs ls h; exact absurd h (fun h => h)
    | succ n ih104 =>
      intro a0 x1 x2 x4 S H locs ls h hp hl
      have h : wX8_make_b104 Q k39 (lX8_make_b104 Q k39 n) a0 x1 x2 x4 S := h
      unfold wX8_make_b104 at h
      refine lv_iload hx hb dX8_make_104 (q_at hl 3 rfl) ?_
      refine lv_aload_n hx hb dX8_make_106 rfl (q_at hl 0 rfl) ?_
      refine q_rGI C hp h rfl iX8_make_X8 (by decide) kX8_make_112 dX8_make_107 (fun v_2 h => ?_)
      refine lv_icmp_ge (tgt := 150) hx hb dX8_make_110 (by decide) (fun c_3 => ?_) (fun c_3 => ?_)
      · replace h := h.1 c_3
        exact j150 k39 ih39 a0 x1 x2 x4 _ _ _ _ h hp (q_sub hl [0, 1, 2, 3] rfl)
      · replace h := h.2 c_3
        refine lv_aload_n hx hb dX8_make_113 rfl (q_at hl 0 rfl) ?_
        refine lv_iload_n hx hb dX8_make_114 rfl (q_at hl 1 rfl) ?_
        refine lv_iload hx hb dX8_make_115 (q_at hl 3 rfl) ?_
        refine q_finI0 C hp (q_runV (As := [.int x1, .int x4]) (rest := []) C hp (RX8_isEmpty l D g _ a0 x1 x4 _ h _) (cwV 2 C.2.2.2.2.1 gX8_make_X8_isEmpty rfl rfl rfl (by decide +kernel) ⟨(Nat.le_of_ble_eq_true rfl), (Nat.le_of_ble_eq_true rfl)⟩) h.1 rfl rfl hl.1.1 rfl (Nat.le_of_ble_eq_true rfl) dX8_make_117 ⟨(Nat.le_of_ble_eq_true rfl), (Nat.le_of_ble_eq_true rfl)⟩) rfl rfl (fun v_5 S_4 H locs h hp => ?_)
        refine lv_if_eq (tgt := 150) hx hb dX8_make_120 (by decide) (fun c_6 => ?_) (fun c_6 => ?_)
        · replace h := h.1 c_6
          exact j150 k39 ih39 a0 x1 x2 x4 _ _ _ _ h hp (q_sub hl [0, 1, 2, 3] rfl)
        · replace h := h.2 c_6
          refine lv_aload_n hx hb dX8_make_123 rfl (q_at hl 0 rfl) ?_
          refine lv_iload hx hb dX8_make_124 (q_at hl 3 rfl) ?_
          refine q_finI0 C hp (q_runV (As := [.int x4]) (rest := []) C hp (RX8_isNeeded l D g _ a0 x4 _ h _) (cwV 1 C.2.2.2.2.1 gX8_make_X8_isNeeded rfl rfl rfl (by decide +kernel) ⟨(Nat.le_of_ble_eq_true rfl), (Nat.le_of_ble_eq_true rfl)⟩) h.1 rfl rfl hl.1.1 rfl (Nat.le_of_ble_eq_true rfl) dX8_make_126 ⟨(Nat.le_of_ble_eq_true rfl), (Nat.le_of_ble_eq_true rfl)⟩) rfl rfl (fun v_8 S_7 H locs h hp => ?_)
          refine lv_if_ne (tgt := 150) hx hb dX8_make_129 (by decide) (fun c_9 => ?_) (fun c_9 => ?_)
          · replace h := h.1 c_9
            exact j150 k39 ih39 a0 x1 x2 x4 _ _ _ _ h hp (q_sub hl [0, 1, 2, 3] rfl)
          · replace h := h.2 c_9
            refine lv_aload_n hx hb dX8_make_132 rfl (q_at hl 0 rfl) ?_
            refine lv_iload_n hx hb dX8_make_133 rfl (q_at hl 1 rfl) ?_
            refine lv_iload hx hb dX8_make_134 (q_at hl 3 rfl) ?_
            refine q_finI0 C hp (q_runV (As := [.int x1, .int x4]) (rest := []) C hp (RX8_cueOf l D g _ a0 x1 x4 _ h _) (cwV 2 C.2.2.2.2.1 gX8_make_X8_cueOf rfl rfl rfl (by decide +kernel) ⟨(Nat.le_of_ble_eq_true rfl), (Nat.le_of_ble_eq_true rfl)⟩) h.1 rfl rfl hl.1.1 rfl (Nat.le_of_ble_eq_true rfl) dX8_make_136 ⟨(Nat.le_of_ble_eq_true rfl), (Nat.le_of_ble_eq_true rfl)⟩) rfl rfl (fun v_11 S_10 H locs h hp => ?_)
            refine lv_bipush (v := (-100)) hx hb dX8_make_139 (by decide) ?_
            refine lv_icmp_ne (tgt := 150) hx hb dX8_make_141 (by decide) (fun c_12 => ?_) (fun c_12 => ?_)
            · replace h := h.1 c_12
              exact j150 k39 ih39 a0 x1 x2 x4 _ _ _ _ h hp (q_sub hl [0, 1, 2, 3] rfl)
            · replace h := h.2 c_12
              refine q_inc (x := x4) (v := (x4 + (1 : Int32))) (lv' := [(4, .int (x4 + (1 : Int32))), (0, .ref a0), (1, .int x1), (2, .int x2)]) hx hb dX8_make_144 hl (k := 3) rfl rfl (by decide) rfl (fun ls hl => ?_)
              refine lv_goto (tgt := 104) hx hb dX8_make_147 (by decide) ?_
              exact ih104 a0 x1 x2 (x4 + (1 : Int32)) _ _ _ _ h hp (q_sub hl [1, 2, 3, 0] rfl)
  have j39 : ∀ (n : Nat), ∀ (a0 : Nat) (x1 : Int32) (x2 : Int32) (S : q_S) (H : Heap) (locs : List Loc) (ls : Array Slot), lX8_make_b39 Q n a0 x1 x2 S → q_P D g A s.heap S H locs → q_l ls 5 [(0, .ref a0), (1, .int x1), (2, .int x2)] → W p l e rmX8_make s m args below meth c H locs 0 0 (MQ below (va_Qv Q (q_B D g A) A) args s rmX8_make.cells rmX8_make.slots A) (F0 m 39 ls []) := by
    intro n
    induction n with
    | zero => intro a0 x1 x2 S H locs ls h; exact absurd h (fun h => h)
    | succ n ih39 =>
      intro a0 x1 x2 S H locs ls h hp hl
      have h : wX8_make_b39 Q (lX8_make_b39 Q n) a0 x1 x2 S := h
      unfold wX8_make_b39 at h
      refine lv_iload_n hx hb dX8_make_39 rfl (q_at hl 2 rfl) ?_
      refine lv_aload_n hx hb dX8_make_40 rfl (q_at hl 0 rfl) ?_
      refine q_rGI C hp h rfl iX8_make_X8 (by decide) kX8_make_112 dX8_make_41 (fun v_13 h => ?_)
      refine lv_icmp_ge (tgt := 169) hx hb dX8_make_44 (by decide) (fun c_14 => ?_) (fun c_14 => ?_)
      · replace h := h.1 c_14
        exact q_vret C hp hr h dX8_make_169
      · replace h := h.2 c_14
        refine lv_aload_n hx hb dX8_make_47 rfl (q_at hl 0 rfl) ?_
        refine lv_iload_n hx hb dX8_make_48 rfl (q_at hl 1 rfl) ?_
        refine lv_iload_n hx hb dX8_make_49 rfl (q_at hl 2 rfl) ?_
        refine q_finI0 C hp (q_runV (As := [.int x1, .int x2]) (rest := []) C hp (RX8_cueOf l D g _ a0 x1 x2 _ h _) (cwV 2 C.2.2.2.2.1 gX8_make_X8_cueOf rfl rfl rfl (by decide +kernel) ⟨(Nat.le_of_ble_eq_true rfl), (Nat.le_of_ble_eq_true rfl)⟩) h.1 rfl rfl hl.1.1 rfl (Nat.le_of_ble_eq_true rfl) dX8_make_50 ⟨(Nat.le_of_ble_eq_true rfl), (Nat.le_of_ble_eq_true rfl)⟩) rfl rfl (fun v_16 S_15 H locs h hp => ?_)
        refine q_istn (lv' := [(3, .int v_16), (0, .ref a0), (1, .int x1), (2, .int x2)]) hx hb dX8_make_53 rfl hl (by decide) rfl (fun ls hl => ?_)
        refine lv_aload_n hx hb dX8_make_54 rfl (q_at hl 1 rfl) ?_
        refine lv_iload_n hx hb dX8_make_55 rfl (q_at hl 2 rfl) ?_
        refine lv_iload_n hx hb dX8_make_56 rfl (q_at hl 3 rfl) ?_
        refine q_finI0 C hp (q_runV (As := [.int x1, .int x2]) (rest := []) C hp (RX8_isEmpty l D g _ a0 x1 x2 _ h _) (cwV 2 C.2.2.2.2.1 gX8_make_X8_isEmpty rfl rfl rfl (by decide +kernel) ⟨(Nat.le_of_ble_eq_true rfl), (Nat.le_of_ble_eq_true rfl)⟩) h.1 rfl rfl hl.1.1 rfl (Nat.le_of_ble_eq_true rfl) dX8_make_57 ⟨(Nat.le_of_ble_eq_true rfl), (Nat.le_of_ble_eq_true rfl)⟩) rfl rfl (fun v_18 S_17 H locs h hp => ?_)
        refine lv_if_ne (tgt := 78) hx hb dX8_make_60 (by decide) (fun c_19 => ?_) (fun c_19 => ?_)
        · replace h := h.1 c_19
          refine lv_iload_n hx hb dX8_make_78 rfl (q_at hl 0 rfl) ?_
          refine lv_bipush (v := (-100)) hx hb dX8_make_79 (by decide) ?_
          refine lv_icmp_eq (tgt := 99) hx hb dX8_make_81 (by decide) (fun c_20 => ?_) (fun c_20 => ?_)
          · replace h := h.1 c_20
            refine lv_iload_n hx hb dX8_make_99 rfl (q_at hl 3 rfl) ?_
            refine lv_iconst (v := 1) hx hb dX8_make_100 (by decide) ?_
            refine lv_iadd hx hb dX8_make_101 ?_
            refine q_ist (lv' := [(4, .int (x2 + (1 : Int32))), (3, .int v_16), (0, .ref a0), (1, .int x1), (2, .int x2)]) hx hb dX8_make_102 hl (by decide) rfl (fun ls hl => ?_)
            exact j104 (lX8_make_b39 Q n) ih39 q_fuel a0 x1 x2 (x2 + (1 : Int32)) _ _ _ _ h hp (q_sub hl [2, 3, 4, 0] rfl)
          · replace h := h.2 c_20
            refine lv_aload_n hx hb dX8_make_84 rfl (q_at hl 1 rfl) ?_
            refine lv_iload_n hx hb dX8_make_85 rfl (q_at hl 2 rfl) ?_
            refine lv_iconst (v := 2) hx hb dX8_make_86 (by decide) ?_
            refine lv_iload_n hx hb dX8_make_87 rfl (q_at hl 3 rfl) ?_
            refine lv_iconst (v := 1) hx hb dX8_make_88 (by decide) ?_
            refine lv_iload_n hx hb dX8_make_89 rfl (q_at hl 0 rfl) ?_
            refine q_finV0 C hp (q_runV (As := [.int x1, .int (2 : Int32), .int x2, .int (1 : Int32), .int v_16]) (rest := []) C hp (RX8_addRow l D g _ a0 x1 (2 : Int32) x2 (1 : Int32) v_16 _ h _) (cwV 5 C.2.2.2.2.1 gX8_make_X8_addRow rfl rfl rfl (by decide +kernel) ⟨(Nat.le_of_ble_eq_true rfl), (Nat.le_of_ble_eq_true rfl)⟩) h.1 rfl rfl hl.1.1 rfl (Nat.le_of_ble_eq_true rfl) dX8_make_90 ⟨(Nat.le_of_ble_eq_true rfl), (Nat.le_of_ble_eq_true rfl)⟩) rfl rfl (fun S_21 H locs h hp => ?_)
            refine q_inc (x := x2) (v := (x2 + (1 : Int32))) (lv' := [(2, .int (x2 + (1 : Int32))), (3, .int v_16), (0, .ref a0), (1, .int x1)]) hx hb dX8_make_93 hl (k := 3) rfl rfl (by decide) rfl (fun ls hl => ?_)
            refine lv_goto (tgt := 166) hx hb dX8_make_96 (by decide) ?_
            exact j166 (lX8_make_b39 Q n) ih39 a0 x1 (x2 + (1 : Int32)) _ _ _ _ h hp (q_sub hl [2, 3, 0] rfl)
        · replace h := h.2 c_19
          refine lv_aload_n hx hb dX8_make_63 rfl (q_at hl 1 rfl) ?_
          refine lv_iload_n hx hb dX8_make_64 rfl (q_at hl 2 rfl) ?_
          refine lv_iconst (v := 0) hx hb dX8_make_65 (by decide) ?_
          refine lv_iload_n hx hb dX8_make_66 rfl (q_at hl 3 rfl) ?_
          refine lv_iconst (v := 1) hx hb dX8_make_67 (by decide) ?_
          refine lv_iload_n hx hb dX8_make_68 rfl (q_at hl 2 rfl) ?_
          refine q_finV0 C hp (q_runV (As := [.int x1, .int (0 : Int32), .int x2, .int (1 : Int32), .int x1]) (rest := []) C hp (RX8_addRow l D g _ a0 x1 (0 : Int32) x2 (1 : Int32) x1 _ h _) (cwV 5 C.2.2.2.2.1 gX8_make_X8_addRow rfl rfl rfl (by decide +kernel) ⟨(Nat.le_of_ble_eq_true rfl), (Nat.le_of_ble_eq_true rfl)⟩) h.1 rfl rfl hl.1.1 rfl (Nat.le_of_ble_eq_true rfl) dX8_make_69 ⟨(Nat.le_of_ble_eq_true rfl), (Nat.le_of_ble_eq_true rfl)⟩) rfl rfl (fun S_22 H locs h hp => ?_)
          refine q_inc (x := x2) (v := (x2 + (1 : Int32))) (lv' := [(2, .int (x2 + (1 : Int32))), (3, .int v_16), (0, .ref a0), (1, .int x1)]) hx hb dX8_make_72 hl (k := 3) rfl rfl (by decide) rfl (fun ls hl => ?_)
          refine lv_goto (tgt := 166) hx hb dX8_make_75 (by decide) ?_
          exact j166 (lX8_make_b39 Q n) ih39 a0 x1 (x2 + (1 : Int32)) _ _ _ _ h hp (q_sub hl [2, 3, 0] rfl)
  unfold wX8_make at h
  replace h := h.2
  refine lv_aload_n hx hb dX8_make_0 rfl (q_at hl 0 rfl) ?_
  refine q_rGR C hp h rfl iX8_make_X8 (by decide) kX8_make_45 dX8_make_1 (fun r_23 h => ?_)
  refine lv_bipush (v := 6) hx hb dX8_make_4 (by decide) ?_
  refine lv_iconst (v := 0) hx hb dX8_make_6 (by decide) ?_
  refine q_rSI C hp h dX8_make_7 (fun S_24 H locs h hp => ?_)
  refine lv_aload_n hx hb dX8_make_8 rfl (q_at hl 0 rfl) ?_
  refine lv_iload_n hx hb dX8_make_9 rfl (q_at hl 1 rfl) ?_
  refine q_finI0 C hp (q_runV (As := [.int x1]) (rest := []) C hp (RX8_isTacet l D g _ a0 x1 _ h _) (cwV 1 C.2.2.2.2.1 gX8_make_X8_isTacet rfl rfl rfl (by decide +kernel) ⟨(Nat.le_of_ble_eq_true rfl), (Nat.le_of_ble_eq_true rfl)⟩) h.1 rfl rfl hl.1.1 rfl (Nat.le_of_ble_eq_true rfl) dX8_make_10 ⟨(Nat.le_of_ble_eq_true rfl), (Nat.le_of_ble_eq_true rfl)⟩) rfl rfl (fun v_26 S_25 H locs h hp => ?_)
  refine lv_if_eq (tgt := 37) hx hb dX8_make_13 (by decide) (fun c_27 => ?_) (fun c_27 => ?_)
  · replace h := h.1 c_27
    refine lv_iconst (v := 0) hx hb dX8_make_37 (by decide) ?_
    refine q_istn (lv' := [(2, .int (0 : Int32)), (0, .ref a0), (1, .int x1)]) hx hb dX8_make_38 rfl hl (by decide) rfl (fun ls hl => ?_)
    exact j39 q_fuel a0 x1 (0 : Int32) _ _ _ _ h hp (q_sub hl [1, 2, 0] rfl)
  · replace h := h.2 c_27
    refine lv_aload_n hx hb dX8_make_16 rfl (q_at hl 0 rfl) ?_
    refine q_rGI C hp h rfl iX8_make_X8 (by decide) kX8_make_112 dX8_make_17 (fun v_28 h => ?_)
    refine lv_if_le (tgt := 36) hx hb dX8_make_20 (by decide) (fun c_29 => ?_) (fun c_29 => ?_)
    · replace h := h.1 c_29
      exact q_vret C hp hr h dX8_make_36
    · replace h := h.2 c_29
      refine lv_aload_n hx hb dX8_make_23 rfl (q_at hl 0 rfl) ?_
      refine lv_iload_n hx hb dX8_make_24 rfl (q_at hl 1 rfl) ?_
      refine lv_iconst (v := 3) hx hb dX8_make_25 (by decide) ?_
      refine lv_iconst (v := 0) hx hb dX8_make_26 (by decide) ?_
      refine lv_aload_n hx hb dX8_make_27 rfl (q_at hl 0 rfl) ?_
      refine q_rGI C hp h rfl iX8_make_X8 (by decide) kX8_make_112 dX8_make_28 (fun v_30 h => ?_)
      refine lv_bipush (v := (-100)) hx hb dX8_make_31 (by decide) ?_
      refine q_finV0 C hp (q_runV (As := [.int x1, .int (3 : Int32), .int (0 : Int32), .int v_30, .int (-100 : Int32)]) (rest := []) C hp (RX8_addRow l D g _ a0 x1 (3 : Int32) (0 : Int32) v_30 (-100 : Int32) _ h _) (cwV 5 C.2.2.2.2.1 gX8_make_X8_addRow rfl rfl rfl (by decide +kernel) ⟨(Nat.le_of_ble_eq_true rfl), (Nat.le_of_ble_eq_true rfl)⟩) h.1 rfl rfl hl.1.1 rfl (Nat.le_of_ble_eq_true rfl) dX8_make_33 ⟨(Nat.le_of_ble_eq_true rfl), (Nat.le_of_ble_eq_true rfl)⟩) rfl rfl (fun S_31 H locs h hp => ?_)
      exact q_vret C hp hr h dX8_make_36
theorem kX8_keep_42 : Cond.fieldLink RX8 42 (TX8 12).1 (TX8 12).2.1 (TX8 12).2.2.1 ∈ wsX8_keep := by decide +kernel
theorem kX8_keep_45 : Cond.fieldLink RX8 45 (TX8 13).1 (TX8 13).2.1 (TX8 13).2.2.1 ∈ wsX8_keep := by decide +kernel
theorem kX8_keep_48 : Cond.fieldLink RX8 48 (TX8 14).1 (TX8 14).2.1 (TX8 14).2.2.1 ∈ wsX8_keep := by decide +kernel
theorem kX8_keep_51 : Cond.fieldLink RX8 51 (TX8 15).1 (TX8 15).2.1 (TX8 15).2.2.1 ∈ wsX8_keep := by decide +kernel
theorem kX8_keep_54 : Cond.fieldLink RX8 54 (TX8 16).1 (TX8 16).2.1 (TX8 16).2.2.1 ∈ wsX8_keep := by decide +kernel
theorem kX8_keep_57 : Cond.fieldLink RX8 57 (TX8 17).1 (TX8 17).2.1 (TX8 17).2.2.1 ∈ wsX8_keep := by decide +kernel
theorem kX8_keep_60 : Cond.fieldLink RX8 60 (TX8 18).1 (TX8 18).2.1 (TX8 18).2.2.1 ∈ wsX8_keep := by decide +kernel
theorem kX8_keep_63 : Cond.fieldLink RX8 63 (TX8 19).1 (TX8 19).2.1 (TX8 19).2.2.1 ∈ wsX8_keep := by decide +kernel
theorem kX8_keep_66 : Cond.fieldLink RX8 66 (TX8 20).1 (TX8 20).2.1 (TX8 20).2.2.1 ∈ wsX8_keep := by decide +kernel
theorem kX8_keep_69 : Cond.fieldLink RX8 69 (TX8 21).1 (TX8 21).2.1 (TX8 21).2.2.1 ∈ wsX8_keep := by decide +kernel
theorem iX8_keep_X8 : ∀ w ∈ u_ws RX8 TX8 36, w ∈ wsX8_keep := by decide +kernel
set_option maxHeartbeats 4000000 in
set_option maxRecDepth 100000 in
theorem RX8_keep (l : Launch) (D : va_G) (g : q_A) (S : q_S) (a0 : Nat) (x1 : Int32) (Q : q_S → Prop) (h : wX8_keep a0 x1 Q S) : q_Mv l yX8_keep wsX8_keep rmX8_keep D g [.ref a0, .int x1] S Q := by
  refine q_Mv.of (cc := cX8_keep) (nL := 6) (by decide +kernel) rfl (Nat.le_of_ble_eq_true rfl) rfl ?_
  intro p e s m args below meth c ls A C hr hnm hp hl
  have C : q_X p s m args meth c cX8_keep 6 RX8 wsX8_keep D g A := C
  have hx := C.1
  have hb := C.2.1
  have hl : q_l ls 6 [(0, .ref a0), (1, .int x1)] := hl
  have j141 : ∀ (k22 : Nat → Int32 → Int32 → q_S → Prop) (ih22 : ∀ (a0 : Nat) (x1 : Int32) (x2 : Int32) (S : q_S) (H : Heap) (locs : List Loc) (ls : Array Slot), k22 a0 x1 x2 S → q_P D g A s.heap S H locs → q_l ls 6 [(0, .ref a0), (1, .int x1), (2, .int x2)] → W p l e rmX8_keep s m args below meth c H locs 0 0 (MQ below (va_Qv Q (q_B D g A) A) args s rmX8_keep.cells rmX8_keep.slots A) (F0 m 22 ls [])) (n : Nat), ∀ (a0 : Nat) (x1 : Int32) (x2 : Int32) (x3 : Int32) (x4 : Int32) (x5 : Int32) (S : q_S) (H : Heap) (locs : List Loc) (ls : Array Slot), lX8_keep_b141 Q k22 n a0 x1 x2 x3 x4 x5 S → q_P D g A s.heap S H locs → q_l ls 6 [(0, .ref a0), (1, .int x1), (2, .int x2), (3, .int x3), (4, .int x4), (5, .int x5)] → W p l e rmX8_keep s m args below meth c H locs 0 0 (MQ below (va_Qv Q (q_B D g A) A) args s rmX8_keep.cells rmX8_keep.slots A) (F0 m 141 ls []) := by
    intro k22 ih22
    intro n
    induction n with
    | zero => intro a0 x1 x2 x3 x4 x5 S H locs ls h; exact absurd h (fun h => h)
    | succ n ih141 =>
      intro a0 x1 x2 x3 x4 x5 S H locs ls h hp hl
      have h : wX8_keep_b141 Q k22 (lX8_keep_b141 Q k22 n) a0 x1 x2 x3 x4 x5 S := h
      unfold wX8_keep_b141 at h
      refine lv_iload hx hb dX8_keep_141 (q_at hl 5 rfl) ?_
      refine lv_bipush (v := 32) hx hb dX8_keep_143 (by decide) ?_
      refine lv_icmp_ge (tgt := 179) hx hb dX8_keep_145 (by decide) (fun c_1 => ?_) (fun c_1 => ?_)
      · replace h := h.1 c_1
        refine q_inc (x := x2) (v := (x2 + (1 : Int32))) (lv' := [(2, .int (x2 + (1 : Int32))), (0, .ref a0), (1, .int x1), (3, .int x3), (4, .int x4), (5, .int x5)]) hx hb dX8_keep_179 hl (k := 2) rfl rfl (by decide) rfl (fun ls hl => ?_)
        refine lv_goto (tgt := 22) hx hb dX8_keep_182 (by decide) ?_
        exact ih22 a0 x1 (x2 + (1 : Int32)) _ _ _ _ h hp (q_sub hl [1, 2, 0] rfl)
      · replace h := h.2 c_1
        refine lv_aload_n hx hb dX8_keep_148 rfl (q_at hl 0 rfl) ?_
        refine q_rGR C hp h rfl iX8_keep_X8 (by decide) kX8_keep_69 dX8_keep_149 (fun r_2 h => ?_)
        refine lv_bipush (v := 32) hx hb dX8_keep_152 (by decide) ?_
        refine lv_iload_n hx hb dX8_keep_154 rfl (q_at hl 3 rfl) ?_
        refine lv_imul hx hb dX8_keep_155 ?_
        refine lv_iload hx hb dX8_keep_156 (q_at hl 5 rfl) ?_
        refine lv_iadd hx hb dX8_keep_158 ?_
        refine lv_aload_n hx hb dX8_keep_159 rfl (q_at hl 0 rfl) ?_
        refine q_rGR C hp h rfl iX8_keep_X8 (by decide) kX8_keep_69 dX8_keep_160 (fun r_3 h => ?_)
        refine lv_bipush (v := 32) hx hb dX8_keep_163 (by decide) ?_
        refine lv_iload hx hb dX8_keep_165 (q_at hl 4 rfl) ?_
        refine lv_imul hx hb dX8_keep_167 ?_
        refine lv_iload hx hb dX8_keep_168 (q_at hl 5 rfl) ?_
        refine lv_iadd hx hb dX8_keep_170 ?_
        refine q_rLI C hp h dX8_keep_171 (fun v_4 h => ?_)
        refine q_rSI C hp h dX8_keep_172 (fun S_5 H locs h hp => ?_)
        refine q_inc (x := x5) (v := (x5 + (1 : Int32))) (lv' := [(5, .int (x5 + (1 : Int32))), (0, .ref a0), (1, .int x1), (2, .int x2), (3, .int x3), (4, .int x4)]) hx hb dX8_keep_173 hl (k := 5) rfl rfl (by decide) rfl (fun ls hl => ?_)
        refine lv_goto (tgt := 141) hx hb dX8_keep_176 (by decide) ?_
        exact ih141 a0 x1 x2 x3 x4 (x5 + (1 : Int32)) _ _ _ _ h hp (q_sub hl [1, 2, 3, 4, 5, 0] rfl)
  have j22 : ∀ (n : Nat), ∀ (a0 : Nat) (x1 : Int32) (x2 : Int32) (S : q_S) (H : Heap) (locs : List Loc) (ls : Array Slot), lX8_keep_b22 Q n a0 x1 x2 S → q_P D g A s.heap S H locs → q_l ls 6 [(0, .ref a0), (1, .int x1), (2, .int x2)] → W p l e rmX8_keep s m args below meth c H locs 0 0 (MQ below (va_Qv Q (q_B D g A) A) args s rmX8_keep.cells rmX8_keep.slots A) (F0 m 22 ls []) := by
    intro n
    induction n with
    | zero => intro a0 x1 x2 S H locs ls h; exact absurd h (fun h => h)
    | succ n ih22 =>
      intro a0 x1 x2 S H locs ls h hp hl
      have h : wX8_keep_b22 Q (lX8_keep_b22 Q n) a0 x1 x2 S := h
      unfold wX8_keep_b22 at h
      refine lv_iload_n hx hb dX8_keep_22 rfl (q_at hl 2 rfl) ?_
      refine lv_aload_n hx hb dX8_keep_23 rfl (q_at hl 0 rfl) ?_
      refine q_rGR C hp h rfl iX8_keep_X8 (by decide) kX8_keep_45 dX8_keep_24 (fun r_6 h => ?_)
      refine lv_bipush (v := 6) hx hb dX8_keep_27 (by decide) ?_
      refine q_rLI C hp h dX8_keep_29 (fun v_7 h => ?_)
      refine lv_icmp_ge (tgt := 185) hx hb dX8_keep_30 (by decide) (fun c_8 => ?_) (fun c_8 => ?_)
      · replace h := h.1 c_8
        exact q_vret C hp hr h dX8_keep_185
      · replace h := h.2 c_8
        refine lv_bipush (v := 40) hx hb dX8_keep_33 (by decide) ?_
        refine lv_iload_n hx hb dX8_keep_35 rfl (q_at hl 1 rfl) ?_
        refine lv_imul hx hb dX8_keep_36 ?_
        refine lv_iload_n hx hb dX8_keep_37 rfl (q_at hl 2 rfl) ?_
        refine lv_iadd hx hb dX8_keep_38 ?_
        refine q_istn (lv' := [(3, .int (((40 : Int32) * x1) + x2)), (0, .ref a0), (1, .int x1), (2, .int x2)]) hx hb dX8_keep_39 rfl hl (by decide) rfl (fun ls hl => ?_)
        refine lv_sipush (v := 240) hx hb dX8_keep_40 (by decide) ?_
        refine lv_iload_n hx hb dX8_keep_43 rfl (q_at hl 3 rfl) ?_
        refine lv_iadd hx hb dX8_keep_44 ?_
        refine q_ist (lv' := [(4, .int ((240 : Int32) + x2)), (3, .int (((40 : Int32) * x1) + x2)), (0, .ref a0), (1, .int x1), (2, .int x2)]) hx hb dX8_keep_45 hl (by decide) rfl (fun ls hl => ?_)
        refine lv_aload_n hx hb dX8_keep_47 rfl (q_at hl 2 rfl) ?_
        refine q_rGR C hp h rfl iX8_keep_X8 (by decide) kX8_keep_48 dX8_keep_48 (fun r_9 h => ?_)
        refine lv_iload_n hx hb dX8_keep_51 rfl (q_at hl 1 rfl) ?_
        refine lv_aload_n hx hb dX8_keep_52 rfl (q_at hl 2 rfl) ?_
        refine q_rGR C hp h rfl iX8_keep_X8 (by decide) kX8_keep_48 dX8_keep_53 (fun r_10 h => ?_)
        refine lv_iload hx hb dX8_keep_56 (q_at hl 0 rfl) ?_
        refine q_rLI C hp h dX8_keep_58 (fun v_11 h => ?_)
        refine q_rSI C hp h dX8_keep_59 (fun S_12 H locs h hp => ?_)
        refine lv_aload_n hx hb dX8_keep_60 rfl (q_at hl 2 rfl) ?_
        refine q_rGR C hp h rfl iX8_keep_X8 (by decide) kX8_keep_51 dX8_keep_61 (fun r_13 h => ?_)
        refine lv_iload_n hx hb dX8_keep_64 rfl (q_at hl 1 rfl) ?_
        refine lv_aload_n hx hb dX8_keep_65 rfl (q_at hl 2 rfl) ?_
        refine q_rGR C hp h rfl iX8_keep_X8 (by decide) kX8_keep_51 dX8_keep_66 (fun r_14 h => ?_)
        refine lv_iload hx hb dX8_keep_69 (q_at hl 0 rfl) ?_
        refine q_rLI C hp h dX8_keep_71 (fun v_15 h => ?_)
        refine q_rSI C hp h dX8_keep_72 (fun S_16 H locs h hp => ?_)
        refine lv_aload_n hx hb dX8_keep_73 rfl (q_at hl 2 rfl) ?_
        refine q_rGR C hp h rfl iX8_keep_X8 (by decide) kX8_keep_54 dX8_keep_74 (fun r_17 h => ?_)
        refine lv_iload_n hx hb dX8_keep_77 rfl (q_at hl 1 rfl) ?_
        refine lv_aload_n hx hb dX8_keep_78 rfl (q_at hl 2 rfl) ?_
        refine q_rGR C hp h rfl iX8_keep_X8 (by decide) kX8_keep_54 dX8_keep_79 (fun r_18 h => ?_)
        refine lv_iload hx hb dX8_keep_82 (q_at hl 0 rfl) ?_
        refine q_rLI C hp h dX8_keep_84 (fun v_19 h => ?_)
        refine q_rSI C hp h dX8_keep_85 (fun S_20 H locs h hp => ?_)
        refine lv_aload_n hx hb dX8_keep_86 rfl (q_at hl 2 rfl) ?_
        refine q_rGR C hp h rfl iX8_keep_X8 (by decide) kX8_keep_57 dX8_keep_87 (fun r_21 h => ?_)
        refine lv_iload_n hx hb dX8_keep_90 rfl (q_at hl 1 rfl) ?_
        refine lv_aload_n hx hb dX8_keep_91 rfl (q_at hl 2 rfl) ?_
        refine q_rGR C hp h rfl iX8_keep_X8 (by decide) kX8_keep_57 dX8_keep_92 (fun r_22 h => ?_)
        refine lv_iload hx hb dX8_keep_95 (q_at hl 0 rfl) ?_
        refine q_rLI C hp h dX8_keep_97 (fun v_23 h => ?_)
        refine q_rSI C hp h dX8_keep_98 (fun S_24 H locs h hp => ?_)
        refine lv_aload_n hx hb dX8_keep_99 rfl (q_at hl 2 rfl) ?_
        refine q_rGR C hp h rfl iX8_keep_X8 (by decide) kX8_keep_60 dX8_keep_100 (fun r_25 h => ?_)
        refine lv_iload_n hx hb dX8_keep_103 rfl (q_at hl 1 rfl) ?_
        refine lv_aload_n hx hb dX8_keep_104 rfl (q_at hl 2 rfl) ?_
        refine q_rGR C hp h rfl iX8_keep_X8 (by decide) kX8_keep_60 dX8_keep_105 (fun r_26 h => ?_)
        refine lv_iload hx hb dX8_keep_108 (q_at hl 0 rfl) ?_
        refine q_rLI C hp h dX8_keep_110 (fun v_27 h => ?_)
        refine q_rSI C hp h dX8_keep_111 (fun S_28 H locs h hp => ?_)
        refine lv_aload_n hx hb dX8_keep_112 rfl (q_at hl 2 rfl) ?_
        refine q_rGR C hp h rfl iX8_keep_X8 (by decide) kX8_keep_63 dX8_keep_113 (fun r_29 h => ?_)
        refine lv_iload_n hx hb dX8_keep_116 rfl (q_at hl 1 rfl) ?_
        refine lv_aload_n hx hb dX8_keep_117 rfl (q_at hl 2 rfl) ?_
        refine q_rGR C hp h rfl iX8_keep_X8 (by decide) kX8_keep_63 dX8_keep_118 (fun r_30 h => ?_)
        refine lv_iload hx hb dX8_keep_121 (q_at hl 0 rfl) ?_
        refine q_rLI C hp h dX8_keep_123 (fun v_31 h => ?_)
        refine q_rSI C hp h dX8_keep_124 (fun S_32 H locs h hp => ?_)
        refine lv_aload_n hx hb dX8_keep_125 rfl (q_at hl 2 rfl) ?_
        refine q_rGR C hp h rfl iX8_keep_X8 (by decide) kX8_keep_66 dX8_keep_126 (fun r_33 h => ?_)
        refine lv_iload_n hx hb dX8_keep_129 rfl (q_at hl 1 rfl) ?_
        refine lv_aload_n hx hb dX8_keep_130 rfl (q_at hl 2 rfl) ?_
        refine q_rGR C hp h rfl iX8_keep_X8 (by decide) kX8_keep_66 dX8_keep_131 (fun r_34 h => ?_)
        refine lv_iload hx hb dX8_keep_134 (q_at hl 0 rfl) ?_
        refine q_rLI C hp h dX8_keep_136 (fun v_35 h => ?_)
        refine q_rSI C hp h dX8_keep_137 (fun S_36 H locs h hp => ?_)
        refine lv_iconst (v := 0) hx hb dX8_keep_138 (by decide) ?_
        refine q_ist (lv' := [(5, .int (0 : Int32)), (4, .int ((240 : Int32) + x2)), (3, .int (((40 : Int32) * x1) + x2)), (0, .ref a0), (1, .int x1), (2, .int x2)]) hx hb dX8_keep_139 hl (by decide) rfl (fun ls hl => ?_)
        exact j141 (lX8_keep_b22 Q n) ih22 q_fuel a0 x1 x2 (((40 : Int32) * x1) + x2) ((240 : Int32) + x2) (0 : Int32) _ _ _ _ h hp (q_sub hl [3, 4, 5, 2, 1, 0] rfl)
  unfold wX8_keep at h
  replace h := h.2
  refine lv_aload_n hx hb dX8_keep_0 rfl (q_at hl 0 rfl) ?_
  refine q_rGR C hp h rfl iX8_keep_X8 (by decide) kX8_keep_42 dX8_keep_1 (fun r_37 h => ?_)
  refine lv_iload_n hx hb dX8_keep_4 rfl (q_at hl 1 rfl) ?_
  refine lv_iconst (v := 1) hx hb dX8_keep_5 (by decide) ?_
  refine q_rSZ C hp h dX8_keep_6 (fun S_38 H locs h hp => ?_)
  refine lv_aload_n hx hb dX8_keep_7 rfl (q_at hl 0 rfl) ?_
  refine q_rGR C hp h rfl iX8_keep_X8 (by decide) kX8_keep_45 dX8_keep_8 (fun r_39 h => ?_)
  refine lv_iload_n hx hb dX8_keep_11 rfl (q_at hl 1 rfl) ?_
  refine lv_aload_n hx hb dX8_keep_12 rfl (q_at hl 0 rfl) ?_
  refine q_rGR C hp h rfl iX8_keep_X8 (by decide) kX8_keep_45 dX8_keep_13 (fun r_40 h => ?_)
  refine lv_bipush (v := 6) hx hb dX8_keep_16 (by decide) ?_
  refine q_rLI C hp h dX8_keep_18 (fun v_41 h => ?_)
  refine q_rSI C hp h dX8_keep_19 (fun S_42 H locs h hp => ?_)
  refine lv_iconst (v := 0) hx hb dX8_keep_20 (by decide) ?_
  refine q_istn (lv' := [(2, .int (0 : Int32)), (0, .ref a0), (1, .int x1)]) hx hb dX8_keep_21 rfl hl (by decide) rfl (fun ls hl => ?_)
  exact j22 q_fuel a0 x1 (0 : Int32) _ _ _ _ h hp (q_sub hl [1, 2, 0] rfl)
theorem kX8_isLike_48 : Cond.fieldLink RX8 48 (TX8 14).1 (TX8 14).2.1 (TX8 14).2.2.1 ∈ wsX8_isLike := by decide +kernel
theorem kX8_isLike_51 : Cond.fieldLink RX8 51 (TX8 15).1 (TX8 15).2.1 (TX8 15).2.2.1 ∈ wsX8_isLike := by decide +kernel
theorem kX8_isLike_54 : Cond.fieldLink RX8 54 (TX8 16).1 (TX8 16).2.1 (TX8 16).2.2.1 ∈ wsX8_isLike := by decide +kernel
theorem kX8_isLike_57 : Cond.fieldLink RX8 57 (TX8 17).1 (TX8 17).2.1 (TX8 17).2.2.1 ∈ wsX8_isLike := by decide +kernel
theorem kX8_isLike_60 : Cond.fieldLink RX8 60 (TX8 18).1 (TX8 18).2.1 (TX8 18).2.2.1 ∈ wsX8_isLike := by decide +kernel
theorem kX8_isLike_63 : Cond.fieldLink RX8 63 (TX8 19).1 (TX8 19).2.1 (TX8 19).2.2.1 ∈ wsX8_isLike := by decide +kernel
theorem kX8_isLike_66 : Cond.fieldLink RX8 66 (TX8 20).1 (TX8 20).2.1 (TX8 20).2.2.1 ∈ wsX8_isLike := by decide +kernel
theorem kX8_isLike_69 : Cond.fieldLink RX8 69 (TX8 21).1 (TX8 21).2.1 (TX8 21).2.2.1 ∈ wsX8_isLike := by decide +kernel
theorem iX8_isLike_X8 : ∀ w ∈ u_ws RX8 TX8 36, w ∈ wsX8_isLike := by decide +kernel
set_option maxHeartbeats 4000000 in
set_option maxRecDepth 100000 in
theorem RX8_isLike (l : Launch) (D : va_G) (g : q_A) (S : q_S) (a0 : Nat) (x1 : Int32) (x2 : Int32) (Q : Int32 → q_S → Prop) (h : wX8_isLike a0 x1 x2 Q S) : q_Mi l yX8_isLike wsX8_isLike rmX8_isLike D g [.ref a0, .int x1, .int x2] S Q := by
  refine q_Mi.of (cc := cX8_isLike) (nL := 5) (rt := .boolean) (by decide +kernel) rfl (Nat.le_of_ble_eq_true rfl) rfl ?_
  intro p e s m args below meth c ls A C hr hnm hp hl
  have C : q_X p s m args meth c cX8_isLike 5 RX8 wsX8_isLike D g A := C
  have hx := C.1
  have hb := C.2.1
  have hl : q_l ls 5 [(0, .ref a0), (1, .int x1), (2, .int x2)] := hl
  have j163 : ∀ (k114 : Nat → Int32 → Int32 → Int32 → Int32 → q_S → Prop) (ih114 : ∀ (a0 : Nat) (x1 : Int32) (x2 : Int32) (x3 : Int32) (x4 : Int32) (S : q_S) (H : Heap) (locs : List Loc) (ls : Array Slot), k114 a0 x1 x2 x3 x4 S → q_P D g A s.heap S H locs → q_l ls 5 [(0, .ref a0), (1, .int x1), (2, .int x2), (3, .int x3), (4, .int x4)] → W p l e rmX8_isLike s m args below meth c H locs 0 0 (MQ below (va_Qi Q (q_B D g A) A) args s rmX8_isLike.cells rmX8_isLike.slots A) (F0 m 114 ls [])) (a0 : Nat) (x1 : Int32) (x2 : Int32) (x4 : Int32) (y0 : Int32) (S : q_S) (H : Heap) (locs : List Loc) (ls : Array Slot), wX8_isLike_b163 Q k114 a0 x1 x2 x4 y0 S → q_P D g A s.heap S H locs → q_l ls 5 [(0, .ref a0), (1, .int x1), (2, .int x2), (4, .int x4)] → W p l e rmX8_isLike s m args below meth c H locs 0 0 (MQ below (va_Qi Q (q_B D g A) A) args s rmX8_isLike.cells rmX8_isLike.slots A) (F0 m 163 ls [.int y0]) := by
    intro k114 ih114 a0 x1 x2 x4 y0 S H locs ls h hp hl
    unfold wX8_isLike_b163 at h
    refine q_istn (lv' := [(3, .int y0), (0, .ref a0), (1, .int x1), (2, .int x2), (4, .int x4)]) hx hb dX8_isLike_163 rfl hl (by decide) rfl (fun ls hl => ?_)
    refine q_inc (x := x4) (v := (x4 + (1 : Int32))) (lv' := [(4, .int (x4 + (1 : Int32))), (3, .int y0), (0, .ref a0), (1, .int x1), (2, .int x2)]) hx hb dX8_isLike_164 hl (k := 4) rfl rfl (by decide) rfl (fun ls hl => ?_)
    refine lv_goto (tgt := 114) hx hb dX8_isLike_167 (by decide) ?_
    exact ih114 a0 x1 x2 y0 (x4 + (1 : Int32)) _ _ _ _ h hp (q_sub hl [2, 3, 4, 1, 0] rfl)
  have j162 : ∀ (k114 : Nat → Int32 → Int32 → Int32 → Int32 → q_S → Prop) (ih114 : ∀ (a0 : Nat) (x1 : Int32) (x2 : Int32) (x3 : Int32) (x4 : Int32) (S : q_S) (H : Heap) (locs : List Loc) (ls : Array Slot), k114 a0 x1 x2 x3 x4 S → q_P D g A s.heap S H locs → q_l ls 5 [(0, .ref a0), (1, .int x1), (2, .int x2), (3, .int x3), (4, .int x4)] → W p l e rmX8_isLike s m args below meth c H locs 0 0 (MQ below (va_Qi Q (q_B D g A) A) args s rmX8_isLike.cells rmX8_isLike.slots A) (F0 m 114 ls [])) (a0 : Nat) (x1 : Int32) (x2 : Int32) (x4 : Int32) (S : q_S) (H : Heap) (locs : List Loc) (ls : Array Slot), wX8_isLike_b162 Q k114 a0 x1 x2 x4 S → q_P D g A s.heap S H locs → q_l ls 5 [(0, .ref a0), (1, .int x1), (2, .int x2), (4, .int x4)] → W p l e rmX8_isLike s m args below meth c H locs 0 0 (MQ below (va_Qi Q (q_B D g A) A) args s rmX8_isLike.cells rmX8_isLike.slots A) (F0 m 162 ls []) := by
    intro k114 ih114 a0 x1 x2 x4 S H locs ls h hp hl
    unfold wX8_isLike_b162 at h
    refine lv_iconst (v := 0) hx hb dX8_isLike_162 (by decide) ?_
    exact j163 k114 ih114 a0 x1 x2 x4 (0 : Int32) _ _ _ _ h hp (q_sub hl [0, 1, 2, 3] rfl)
  have j114 : ∀ (n : Nat), ∀ (a0 : Nat) (x1 : Int32) (x2 : Int32) (x3 : Int32) (x4 : Int32) (S : q_S) (H : Heap) (locs : List Loc) (ls : Array Slot), lX8_isLike_b114 Q n a0 x1 x2 x3 x4 S → q_P D g A s.heap S H locs → q_l ls 5 [(0, .ref a0), (1, .int x1), (2, .int x2), (3, .int x3), (4, .int x4)] → W p l e rmX8_isLike s m args below meth c H locs 0 0 (MQ below (va_Qi Q (q_B D g A) A) args s rmX8_isLike.cells rmX8_isLike.slots A) (F0 m 114 ls []) := by
    intro n
    induction n with
    | zero => intro a0 x1 x2 x3 x4 S H locs ls h; exact absurd h (fun h => h)
    | succ n ih114 =>
      intro a0 x1 x2 x3 x4 S H locs ls h hp hl
      have h : wX8_isLike_b114 Q (lX8_isLike_b114 Q n) a0 x1 x2 x3 x4 S := h
      unfold wX8_isLike_b114 at h
      refine lv_iload hx hb dX8_isLike_114 (q_at hl 4 rfl) ?_
      refine lv_iconst (v := 4) hx hb dX8_isLike_116 (by decide) ?_
      refine lv_aload_n hx hb dX8_isLike_117 rfl (q_at hl 0 rfl) ?_
      refine q_rGR C hp h rfl iX8_isLike_X8 (by decide) kX8_isLike_66 dX8_isLike_118 (fun r_1 h => ?_)
      refine lv_iload_n hx hb dX8_isLike_121 rfl (q_at hl 1 rfl) ?_
      refine q_rLI C hp h dX8_isLike_122 (fun v_2 h => ?_)
      refine lv_imul hx hb dX8_isLike_123 ?_
      refine lv_icmp_ge (tgt := 170) hx hb dX8_isLike_124 (by decide) (fun c_3 => ?_) (fun c_3 => ?_)
      · replace h := h.1 c_3
        refine lv_iload_n hx hb dX8_isLike_170 rfl (q_at hl 3 rfl) ?_
        exact q_zret C hp hr h dX8_isLike_171
      · replace h := h.2 c_3
        refine lv_iload_n hx hb dX8_isLike_127 rfl (q_at hl 3 rfl) ?_
        refine lv_if_eq (tgt := 162) hx hb dX8_isLike_128 (by decide) (fun c_4 => ?_) (fun c_4 => ?_)
        · replace h := h.1 c_4
          exact j162 (lX8_isLike_b114 Q n) ih114 a0 x1 x2 x4 _ _ _ _ h hp (q_sub hl [0, 1, 2, 4] rfl)
        · replace h := h.2 c_4
          refine lv_aload_n hx hb dX8_isLike_131 rfl (q_at hl 0 rfl) ?_
          refine q_rGR C hp h rfl iX8_isLike_X8 (by decide) kX8_isLike_69 dX8_isLike_132 (fun r_5 h => ?_)
          refine lv_bipush (v := 32) hx hb dX8_isLike_135 (by decide) ?_
          refine lv_iload_n hx hb dX8_isLike_137 rfl (q_at hl 1 rfl) ?_
          refine lv_imul hx hb dX8_isLike_138 ?_
          refine lv_iload hx hb dX8_isLike_139 (q_at hl 4 rfl) ?_
          refine lv_iadd hx hb dX8_isLike_141 ?_
          refine q_rLI C hp h dX8_isLike_142 (fun v_6 h => ?_)
          refine lv_aload_n hx hb dX8_isLike_143 rfl (q_at hl 0 rfl) ?_
          refine q_rGR C hp h rfl iX8_isLike_X8 (by decide) kX8_isLike_69 dX8_isLike_144 (fun r_7 h => ?_)
          refine lv_bipush (v := 32) hx hb dX8_isLike_147 (by decide) ?_
          refine lv_iload_n hx hb dX8_isLike_149 rfl (q_at hl 2 rfl) ?_
          refine lv_imul hx hb dX8_isLike_150 ?_
          refine lv_iload hx hb dX8_isLike_151 (q_at hl 4 rfl) ?_
          refine lv_iadd hx hb dX8_isLike_153 ?_
          refine q_rLI C hp h dX8_isLike_154 (fun v_8 h => ?_)
          refine lv_icmp_ne (tgt := 162) hx hb dX8_isLike_155 (by decide) (fun c_9 => ?_) (fun c_9 => ?_)
          · replace h := h.1 c_9
            exact j162 (lX8_isLike_b114 Q n) ih114 a0 x1 x2 x4 _ _ _ _ h hp (q_sub hl [0, 1, 2, 4] rfl)
          · replace h := h.2 c_9
            refine lv_iconst (v := 1) hx hb dX8_isLike_158 (by decide) ?_
            refine lv_goto (tgt := 163) hx hb dX8_isLike_159 (by decide) ?_
            exact j163 (lX8_isLike_b114 Q n) ih114 a0 x1 x2 x4 (1 : Int32) _ _ _ _ h hp (q_sub hl [0, 1, 2, 4] rfl)
  have j110 : ∀ (a0 : Nat) (x1 : Int32) (x2 : Int32) (y0 : Int32) (S : q_S) (H : Heap) (locs : List Loc) (ls : Array Slot), wX8_isLike_b110 Q a0 x1 x2 y0 S → q_P D g A s.heap S H locs → q_l ls 5 [(0, .ref a0), (1, .int x1), (2, .int x2)] → W p l e rmX8_isLike s m args below meth c H locs 0 0 (MQ below (va_Qi Q (q_B D g A) A) args s rmX8_isLike.cells rmX8_isLike.slots A) (F0 m 110 ls [.int y0]) := by
    intro a0 x1 x2 y0 S H locs ls h hp hl
    unfold wX8_isLike_b110 at h
    refine q_istn (lv' := [(3, .int y0), (0, .ref a0), (1, .int x1), (2, .int x2)]) hx hb dX8_isLike_110 rfl hl (by decide) rfl (fun ls hl => ?_)
    refine lv_iconst (v := 0) hx hb dX8_isLike_111 (by decide) ?_
    refine q_ist (lv' := [(4, .int (0 : Int32)), (3, .int y0), (0, .ref a0), (1, .int x1), (2, .int x2)]) hx hb dX8_isLike_112 hl (by decide) rfl (fun ls hl => ?_)
    exact j114 q_fuel a0 x1 x2 y0 (0 : Int32) _ _ _ _ h hp (q_sub hl [2, 3, 4, 1, 0] rfl)
  have j109 : ∀ (a0 : Nat) (x1 : Int32) (x2 : Int32) (S : q_S) (H : Heap) (locs : List Loc) (ls : Array Slot), wX8_isLike_b109 Q a0 x1 x2 S → q_P D g A s.heap S H locs → q_l ls 5 [(0, .ref a0), (1, .int x1), (2, .int x2)] → W p l e rmX8_isLike s m args below meth c H locs 0 0 (MQ below (va_Qi Q (q_B D g A) A) args s rmX8_isLike.cells rmX8_isLike.slots A) (F0 m 109 ls []) := by
    intro a0 x1 x2 S H locs ls h hp hl
    unfold wX8_isLike_b109 at h
    refine lv_iconst (v := 0) hx hb dX8_isLike_109 (by decide) ?_
    exact j110 a0 x1 x2 (0 : Int32) _ _ _ _ h hp (q_sub hl [0, 1, 2] rfl)
  unfold wX8_isLike at h
  replace h := h.2
  refine lv_aload_n hx hb dX8_isLike_0 rfl (q_at hl 0 rfl) ?_
  refine q_rGR C hp h rfl iX8_isLike_X8 (by decide) kX8_isLike_48 dX8_isLike_1 (fun r_10 h => ?_)
  refine lv_iload_n hx hb dX8_isLike_4 rfl (q_at hl 1 rfl) ?_
  refine q_rLI C hp h dX8_isLike_5 (fun v_11 h => ?_)
  refine lv_aload_n hx hb dX8_isLike_6 rfl (q_at hl 0 rfl) ?_
  refine q_rGR C hp h rfl iX8_isLike_X8 (by decide) kX8_isLike_48 dX8_isLike_7 (fun r_12 h => ?_)
  refine lv_iload_n hx hb dX8_isLike_10 rfl (q_at hl 2 rfl) ?_
  refine q_rLI C hp h dX8_isLike_11 (fun v_13 h => ?_)
  refine lv_icmp_ne (tgt := 109) hx hb dX8_isLike_12 (by decide) (fun c_14 => ?_) (fun c_14 => ?_)
  · replace h := h.1 c_14
    exact j109 a0 x1 x2 _ _ _ _ h hp (q_sub hl [0, 1, 2] rfl)
  · replace h := h.2 c_14
    refine lv_aload_n hx hb dX8_isLike_15 rfl (q_at hl 0 rfl) ?_
    refine q_rGR C hp h rfl iX8_isLike_X8 (by decide) kX8_isLike_51 dX8_isLike_16 (fun r_15 h => ?_)
    refine lv_iload_n hx hb dX8_isLike_19 rfl (q_at hl 1 rfl) ?_
    refine q_rLI C hp h dX8_isLike_20 (fun v_16 h => ?_)
    refine lv_aload_n hx hb dX8_isLike_21 rfl (q_at hl 0 rfl) ?_
    refine q_rGR C hp h rfl iX8_isLike_X8 (by decide) kX8_isLike_51 dX8_isLike_22 (fun r_17 h => ?_)
    refine lv_iload_n hx hb dX8_isLike_25 rfl (q_at hl 2 rfl) ?_
    refine q_rLI C hp h dX8_isLike_26 (fun v_18 h => ?_)
    refine lv_icmp_ne (tgt := 109) hx hb dX8_isLike_27 (by decide) (fun c_19 => ?_) (fun c_19 => ?_)
    · replace h := h.1 c_19
      exact j109 a0 x1 x2 _ _ _ _ h hp (q_sub hl [0, 1, 2] rfl)
    · replace h := h.2 c_19
      refine lv_aload_n hx hb dX8_isLike_30 rfl (q_at hl 0 rfl) ?_
      refine q_rGR C hp h rfl iX8_isLike_X8 (by decide) kX8_isLike_54 dX8_isLike_31 (fun r_20 h => ?_)
      refine lv_iload_n hx hb dX8_isLike_34 rfl (q_at hl 1 rfl) ?_
      refine q_rLI C hp h dX8_isLike_35 (fun v_21 h => ?_)
      refine lv_aload_n hx hb dX8_isLike_36 rfl (q_at hl 0 rfl) ?_
      refine q_rGR C hp h rfl iX8_isLike_X8 (by decide) kX8_isLike_54 dX8_isLike_37 (fun r_22 h => ?_)
      refine lv_iload_n hx hb dX8_isLike_40 rfl (q_at hl 2 rfl) ?_
      refine q_rLI C hp h dX8_isLike_41 (fun v_23 h => ?_)
      refine lv_icmp_ne (tgt := 109) hx hb dX8_isLike_42 (by decide) (fun c_24 => ?_) (fun c_24 => ?_)
      · replace h := h.1 c_24
        exact j109 a0 x1 x2 _ _ _ _ h hp (q_sub hl [0, 1, 2] rfl)
      · replace h := h.2 c_24
        refine lv_aload_n hx hb dX8_isLike_45 rfl (q_at hl 0 rfl) ?_
        refine q_rGR C hp h rfl iX8_isLike_X8 (by decide) kX8_isLike_57 dX8_isLike_46 (fun r_25 h => ?_)
        refine lv_iload_n hx hb dX8_isLike_49 rfl (q_at hl 1 rfl) ?_
        refine q_rLI C hp h dX8_isLike_50 (fun v_26 h => ?_)
        refine lv_aload_n hx hb dX8_isLike_51 rfl (q_at hl 0 rfl) ?_
        refine q_rGR C hp h rfl iX8_isLike_X8 (by decide) kX8_isLike_57 dX8_isLike_52 (fun r_27 h => ?_)
        refine lv_iload_n hx hb dX8_isLike_55 rfl (q_at hl 2 rfl) ?_
        refine q_rLI C hp h dX8_isLike_56 (fun v_28 h => ?_)
        refine lv_icmp_ne (tgt := 109) hx hb dX8_isLike_57 (by decide) (fun c_29 => ?_) (fun c_29 => ?_)
        · replace h := h.1 c_29
          exact j109 a0 x1 x2 _ _ _ _ h hp (q_sub hl [0, 1, 2] rfl)
        · replace h := h.2 c_29
          refine lv_aload_n hx hb dX8_isLike_60 rfl (q_at hl 0 rfl) ?_
          refine q_rGR C hp h rfl iX8_isLike_X8 (by decide) kX8_isLike_60 dX8_isLike_61 (fun r_30 h => ?_)
          refine lv_iload_n hx hb dX8_isLike_64 rfl (q_at hl 1 rfl) ?_
          refine q_rLI C hp h dX8_isLike_65 (fun v_31 h => ?_)
          refine lv_aload_n hx hb dX8_isLike_66 rfl (q_at hl 0 rfl) ?_
          refine q_rGR C hp h rfl iX8_isLike_X8 (by decide) kX8_isLike_60 dX8_isLike_67 (fun r_32 h => ?_)
          refine lv_iload_n hx hb dX8_isLike_70 rfl (q_at hl 2 rfl) ?_
          refine q_rLI C hp h dX8_isLike_71 (fun v_33 h => ?_)
          refine lv_icmp_ne (tgt := 109) hx hb dX8_isLike_72 (by decide) (fun c_34 => ?_) (fun c_34 => ?_)
          · replace h := h.1 c_34
            exact j109 a0 x1 x2 _ _ _ _ h hp (q_sub hl [0, 1, 2] rfl)
          · replace h := h.2 c_34
            refine lv_aload_n hx hb dX8_isLike_75 rfl (q_at hl 0 rfl) ?_
            refine q_rGR C hp h rfl iX8_isLike_X8 (by decide) kX8_isLike_63 dX8_isLike_76 (fun r_35 h => ?_)
            refine lv_iload_n hx hb dX8_isLike_79 rfl (q_at hl 1 rfl) ?_
            refine q_rLI C hp h dX8_isLike_80 (fun v_36 h => ?_)
            refine lv_aload_n hx hb dX8_isLike_81 rfl (q_at hl 0 rfl) ?_
            refine q_rGR C hp h rfl iX8_isLike_X8 (by decide) kX8_isLike_63 dX8_isLike_82 (fun r_37 h => ?_)
            refine lv_iload_n hx hb dX8_isLike_85 rfl (q_at hl 2 rfl) ?_
            refine q_rLI C hp h dX8_isLike_86 (fun v_38 h => ?_)
            refine lv_icmp_ne (tgt := 109) hx hb dX8_isLike_87 (by decide) (fun c_39 => ?_) (fun c_39 => ?_)
            · replace h := h.1 c_39
              exact j109 a0 x1 x2 _ _ _ _ h hp (q_sub hl [0, 1, 2] rfl)
            · replace h := h.2 c_39
              refine lv_aload_n hx hb dX8_isLike_90 rfl (q_at hl 0 rfl) ?_
              refine q_rGR C hp h rfl iX8_isLike_X8 (by decide) kX8_isLike_66 dX8_isLike_91 (fun r_40 h => ?_)
              refine lv_iload_n hx hb dX8_isLike_94 rfl (q_at hl 1 rfl) ?_
              refine q_rLI C hp h dX8_isLike_95 (fun v_41 h => ?_)
              refine lv_aload_n hx hb dX8_isLike_96 rfl (q_at hl 0 rfl) ?_
              refine q_rGR C hp h rfl iX8_isLike_X8 (by decide) kX8_isLike_66 dX8_isLike_97 (fun r_42 h => ?_)
              refine lv_iload_n hx hb dX8_isLike_100 rfl (q_at hl 2 rfl) ?_
              refine q_rLI C hp h dX8_isLike_101 (fun v_43 h => ?_)
              refine lv_icmp_ne (tgt := 109) hx hb dX8_isLike_102 (by decide) (fun c_44 => ?_) (fun c_44 => ?_)
              · replace h := h.1 c_44
                exact j109 a0 x1 x2 _ _ _ _ h hp (q_sub hl [0, 1, 2] rfl)
              · replace h := h.2 c_44
                refine lv_iconst (v := 1) hx hb dX8_isLike_105 (by decide) ?_
                refine lv_goto (tgt := 110) hx hb dX8_isLike_106 (by decide) ?_
                exact j110 a0 x1 x2 (1 : Int32) _ _ _ _ h hp (q_sub hl [0, 1, 2] rfl)
theorem kX8_isPart_42 : Cond.fieldLink RX8 42 (TX8 12).1 (TX8 12).2.1 (TX8 12).2.2.1 ∈ wsX8_isPart := by decide +kernel
theorem iX8_isPart_X8 : ∀ w ∈ u_ws RX8 TX8 36, w ∈ wsX8_isPart := by decide +kernel
set_option maxHeartbeats 4000000 in
set_option maxRecDepth 100000 in
theorem RX8_isPart (l : Launch) (D : va_G) (g : q_A) (S : q_S) (a0 : Nat) (x1 : Int32) (Q : Int32 → q_S → Prop) (h : wX8_isPart a0 x1 Q S) : q_Mi l yX8_isPart wsX8_isPart rmX8_isPart D g [.ref a0, .int x1] S Q := by
  refine q_Mi.of (cc := cX8_isPart) (nL := 2) (rt := .boolean) (by decide +kernel) rfl (Nat.le_of_ble_eq_true rfl) rfl ?_
  intro p e s m args below meth c ls A C hr hnm hp hl
  have C : q_X p s m args meth c cX8_isPart 2 RX8 wsX8_isPart D g A := C
  have hx := C.1
  have hb := C.2.1
  have hl : q_l ls 2 [(0, .ref a0), (1, .int x1)] := hl
  unfold wX8_isPart at h
  replace h := h.2
  refine lv_aload_n hx hb dX8_isPart_0 rfl (q_at hl 0 rfl) ?_
  refine lv_iload_n hx hb dX8_isPart_1 rfl (q_at hl 1 rfl) ?_
  refine q_finI0 C hp (q_runV (As := [.int x1]) (rest := []) C hp (RX8_isVoice l D g _ a0 x1 _ h _) (cwV 1 C.2.2.2.2.1 gX8_isPart_X8_isVoice rfl rfl rfl (by decide +kernel) ⟨(Nat.le_of_ble_eq_true rfl), (Nat.le_of_ble_eq_true rfl)⟩) h.1 rfl rfl hl.1.1 rfl (Nat.le_of_ble_eq_true rfl) dX8_isPart_2 ⟨(Nat.le_of_ble_eq_true rfl), (Nat.le_of_ble_eq_true rfl)⟩) rfl rfl (fun v_2 S_1 H locs h hp => ?_)
  refine lv_if_eq (tgt := 21) hx hb dX8_isPart_5 (by decide) (fun c_3 => ?_) (fun c_3 => ?_)
  · replace h := h.1 c_3
    refine lv_iconst (v := 0) hx hb dX8_isPart_21 (by decide) ?_
    exact q_zret C hp hr h dX8_isPart_22
  · replace h := h.2 c_3
    refine lv_aload_n hx hb dX8_isPart_8 rfl (q_at hl 0 rfl) ?_
    refine q_rGR C hp h rfl iX8_isPart_X8 (by decide) kX8_isPart_42 dX8_isPart_9 (fun r_4 h => ?_)
    refine lv_iload_n hx hb dX8_isPart_12 rfl (q_at hl 1 rfl) ?_
    refine q_rLZ C hp h dX8_isPart_13 (fun v_5 h => ?_)
    refine lv_if_eq (tgt := 21) hx hb dX8_isPart_14 (by decide) (fun c_6 => ?_) (fun c_6 => ?_)
    · replace h := h.1 c_6
      refine lv_iconst (v := 0) hx hb dX8_isPart_21 (by decide) ?_
      exact q_zret C hp hr h dX8_isPart_22
    · replace h := h.2 c_6
      refine lv_iconst (v := 1) hx hb dX8_isPart_17 (by decide) ?_
      refine lv_goto (tgt := 22) hx hb dX8_isPart_18 (by decide) ?_
      exact q_zret C hp hr h dX8_isPart_22
theorem kX8_extract_45 : Cond.fieldLink RX8 45 (TX8 13).1 (TX8 13).2.1 (TX8 13).2.2.1 ∈ wsX8_extract := by decide +kernel
theorem iX8_extract_X8 : ∀ w ∈ u_ws RX8 TX8 36, w ∈ wsX8_extract := by decide +kernel
set_option maxHeartbeats 4000000 in
set_option maxRecDepth 100000 in
theorem RX8_extract (l : Launch) (D : va_G) (g : q_A) (S : q_S) (a0 : Nat) (x1 : Int32) (Q : Int32 → q_S → Prop) (h : wX8_extract a0 x1 Q S) : q_Mi l yX8_extract wsX8_extract rmX8_extract D g [.ref a0, .int x1] S Q := by
  refine q_Mi.of (cc := cX8_extract) (nL := 2) (rt := .int) (by decide +kernel) rfl (Nat.le_of_ble_eq_true rfl) rfl ?_
  intro p e s m args below meth c ls A C hr hnm hp hl
  have C : q_X p s m args meth c cX8_extract 2 RX8 wsX8_extract D g A := C
  have hx := C.1
  have hb := C.2.1
  have hl : q_l ls 2 [(0, .ref a0), (1, .int x1)] := hl
  unfold wX8_extract at h
  replace h := h.2
  refine lv_aload_n hx hb dX8_extract_0 rfl (q_at hl 0 rfl) ?_
  refine lv_iload_n hx hb dX8_extract_1 rfl (q_at hl 1 rfl) ?_
  refine q_finI0 C hp (q_runV (As := [.int x1]) (rest := []) C hp (RX8_isVoice l D g _ a0 x1 _ h _) (cwV 1 C.2.2.2.2.1 gX8_extract_X8_isVoice rfl rfl rfl (by decide +kernel) ⟨(Nat.le_of_ble_eq_true rfl), (Nat.le_of_ble_eq_true rfl)⟩) h.1 rfl rfl hl.1.1 rfl (Nat.le_of_ble_eq_true rfl) dX8_extract_2 ⟨(Nat.le_of_ble_eq_true rfl), (Nat.le_of_ble_eq_true rfl)⟩) rfl rfl (fun v_2 S_1 H locs h hp => ?_)
  refine lv_if_ne (tgt := 11) hx hb dX8_extract_5 (by decide) (fun c_3 => ?_) (fun c_3 => ?_)
  · replace h := h.1 c_3
    refine lv_aload_n hx hb dX8_extract_11 rfl (q_at hl 0 rfl) ?_
    refine lv_iload_n hx hb dX8_extract_12 rfl (q_at hl 1 rfl) ?_
    refine q_finV0 C hp (q_runV (As := [.int x1]) (rest := []) C hp (RX8_make l D g _ a0 x1 _ h _) (cwV 1 C.2.2.2.2.1 gX8_extract_X8_make rfl rfl rfl (by decide +kernel) ⟨(Nat.le_of_ble_eq_true rfl), (Nat.le_of_ble_eq_true rfl)⟩) h.1 rfl rfl hl.1.1 rfl (Nat.le_of_ble_eq_true rfl) dX8_extract_13 ⟨(Nat.le_of_ble_eq_true rfl), (Nat.le_of_ble_eq_true rfl)⟩) rfl rfl (fun S_4 H locs h hp => ?_)
    refine lv_aload_n hx hb dX8_extract_16 rfl (q_at hl 0 rfl) ?_
    refine lv_iload_n hx hb dX8_extract_17 rfl (q_at hl 1 rfl) ?_
    refine q_finV0 C hp (q_runV (As := [.int x1]) (rest := []) C hp (RX8_keep l D g _ a0 x1 _ h _) (cwV 1 C.2.2.2.2.1 gX8_extract_X8_keep rfl rfl rfl (by decide +kernel) ⟨(Nat.le_of_ble_eq_true rfl), (Nat.le_of_ble_eq_true rfl)⟩) h.1 rfl rfl hl.1.1 rfl (Nat.le_of_ble_eq_true rfl) dX8_extract_18 ⟨(Nat.le_of_ble_eq_true rfl), (Nat.le_of_ble_eq_true rfl)⟩) rfl rfl (fun S_5 H locs h hp => ?_)
    refine lv_aload_n hx hb dX8_extract_21 rfl (q_at hl 0 rfl) ?_
    refine q_rGR C hp h rfl iX8_extract_X8 (by decide) kX8_extract_45 dX8_extract_22 (fun r_6 h => ?_)
    refine lv_iload_n hx hb dX8_extract_25 rfl (q_at hl 1 rfl) ?_
    refine q_rLI C hp h dX8_extract_26 (fun v_7 h => ?_)
    exact q_iret C hp hr h dX8_extract_27
  · replace h := h.2 c_3
    refine lv_bipush (v := (-101)) hx hb dX8_extract_8 (by decide) ?_
    exact q_iret C hp hr h dX8_extract_10
theorem kX8_row_45 : Cond.fieldLink RX8 45 (TX8 13).1 (TX8 13).2.1 (TX8 13).2.2.1 ∈ wsX8_row := by decide +kernel
theorem kX8_row_48 : Cond.fieldLink RX8 48 (TX8 14).1 (TX8 14).2.1 (TX8 14).2.2.1 ∈ wsX8_row := by decide +kernel
theorem kX8_row_51 : Cond.fieldLink RX8 51 (TX8 15).1 (TX8 15).2.1 (TX8 15).2.2.1 ∈ wsX8_row := by decide +kernel
theorem kX8_row_54 : Cond.fieldLink RX8 54 (TX8 16).1 (TX8 16).2.1 (TX8 16).2.2.1 ∈ wsX8_row := by decide +kernel
theorem kX8_row_57 : Cond.fieldLink RX8 57 (TX8 17).1 (TX8 17).2.1 (TX8 17).2.2.1 ∈ wsX8_row := by decide +kernel
theorem kX8_row_60 : Cond.fieldLink RX8 60 (TX8 18).1 (TX8 18).2.1 (TX8 18).2.2.1 ∈ wsX8_row := by decide +kernel
theorem kX8_row_63 : Cond.fieldLink RX8 63 (TX8 19).1 (TX8 19).2.1 (TX8 19).2.2.1 ∈ wsX8_row := by decide +kernel
theorem kX8_row_66 : Cond.fieldLink RX8 66 (TX8 20).1 (TX8 20).2.1 (TX8 20).2.2.1 ∈ wsX8_row := by decide +kernel
theorem iX8_row_X8 : ∀ w ∈ u_ws RX8 TX8 36, w ∈ wsX8_row := by decide +kernel
set_option maxHeartbeats 4000000 in
set_option maxRecDepth 100000 in
theorem RX8_row (l : Launch) (D : va_G) (g : q_A) (S : q_S) (a0 : Nat) (x1 : Int32) (x2 : Int32) (x3 : Int32) (Q : Int32 → q_S → Prop) (h : wX8_row a0 x1 x2 x3 Q S) : q_Mi l yX8_row wsX8_row rmX8_row D g [.ref a0, .int x1, .int x2, .int x3] S Q := by
  refine q_Mi.of (cc := cX8_row) (nL := 5) (rt := .int) (by decide +kernel) rfl (Nat.le_of_ble_eq_true rfl) rfl ?_
  intro p e s m args below meth c ls A C hr hnm hp hl
  have C : q_X p s m args meth c cX8_row 5 RX8 wsX8_row D g A := C
  have hx := C.1
  have hb := C.2.1
  have hl : q_l ls 5 [(0, .ref a0), (1, .int x1), (2, .int x2), (3, .int x3)] := hl
  unfold wX8_row at h
  replace h := h.2
  refine lv_aload_n hx hb dX8_row_0 rfl (q_at hl 0 rfl) ?_
  refine lv_iload_n hx hb dX8_row_1 rfl (q_at hl 1 rfl) ?_
  refine q_finI0 C hp (q_runV (As := [.int x1]) (rest := []) C hp (RX8_isPart l D g _ a0 x1 _ h _) (cwV 1 C.2.2.2.2.1 gX8_row_X8_isPart rfl rfl rfl (by decide +kernel) ⟨(Nat.le_of_ble_eq_true rfl), (Nat.le_of_ble_eq_true rfl)⟩) h.1 rfl rfl hl.1.1 rfl (Nat.le_of_ble_eq_true rfl) dX8_row_2 ⟨(Nat.le_of_ble_eq_true rfl), (Nat.le_of_ble_eq_true rfl)⟩) rfl rfl (fun v_2 S_1 H locs h hp => ?_)
  refine lv_if_eq (tgt := 24) hx hb dX8_row_5 (by decide) (fun c_3 => ?_) (fun c_3 => ?_)
  · replace h := h.1 c_3
    refine lv_bipush (v := (-101)) hx hb dX8_row_24 (by decide) ?_
    exact q_iret C hp hr h dX8_row_26
  · replace h := h.2 c_3
    refine lv_iload_n hx hb dX8_row_8 rfl (q_at hl 2 rfl) ?_
    refine lv_iconst (v := 0) hx hb dX8_row_9 (by decide) ?_
    refine lv_aload_n hx hb dX8_row_10 rfl (q_at hl 0 rfl) ?_
    refine q_rGR C hp h rfl iX8_row_X8 (by decide) kX8_row_45 dX8_row_11 (fun r_4 h => ?_)
    refine lv_iload_n hx hb dX8_row_14 rfl (q_at hl 1 rfl) ?_
    refine q_rLI C hp h dX8_row_15 (fun v_5 h => ?_)
    refine lv_iconst (v := 1) hx hb dX8_row_16 (by decide) ?_
    refine lv_isub hx hb dX8_row_17 ?_
    refine q_finI0 C hp (q_runS (As := [.int x2, .int (0 : Int32), .int (v_5 - (1 : Int32))]) (rest := []) C hp (RX8_in l D g _ x2 (0 : Int32) (v_5 - (1 : Int32)) _ h _) (va_cwS 3 C.2.2.2.2.1 gX8_row_X8_in rfl rfl rfl (by decide +kernel) ⟨(Nat.le_of_ble_eq_true rfl), (Nat.le_of_ble_eq_true rfl)⟩) rfl hl.1.1 rfl (Nat.le_of_ble_eq_true rfl) dX8_row_18 ⟨(Nat.le_of_ble_eq_true rfl), (Nat.le_of_ble_eq_true rfl)⟩) rfl rfl (fun v_7 S_6 H locs h hp => ?_)
    refine lv_if_ne (tgt := 27) hx hb dX8_row_21 (by decide) (fun c_8 => ?_) (fun c_8 => ?_)
    · replace h := h.1 c_8
      refine lv_bipush (v := 40) hx hb dX8_row_27 (by decide) ?_
      refine lv_iload_n hx hb dX8_row_29 rfl (q_at hl 1 rfl) ?_
      refine lv_imul hx hb dX8_row_30 ?_
      refine lv_iload_n hx hb dX8_row_31 rfl (q_at hl 2 rfl) ?_
      refine lv_iadd hx hb dX8_row_32 ?_
      refine q_ist (lv' := [(4, .int (((40 : Int32) * x1) + x2)), (0, .ref a0), (1, .int x1), (2, .int x2), (3, .int x3)]) hx hb dX8_row_33 hl (by decide) rfl (fun ls hl => ?_)
      refine lv_iload_n hx hb dX8_row_35 rfl (q_at hl 4 rfl) ?_
      by_cases hout : (x3).toInt < 0 ∨ 6 < (x3).toInt
      · replace h := h.1 hout
        refine lv_tableOut (tgt := 136) hx hb dX8_row_36 hout (by decide) ?_
        refine lv_bipush (v := (-102)) hx hb dX8_row_136 (by decide) ?_
        exact q_iret C hp hr h dX8_row_138
      · have hc : (x3).toInt = 0 ∨ (x3).toInt = 1 ∨ (x3).toInt = 2 ∨ (x3).toInt = 3 ∨ (x3).toInt = 4 ∨ (x3).toInt = 5 ∨ (x3).toInt = 6 := by omega
        rcases hc with hc | hc | hc | hc | hc | hc | hc
        · replace h := h.2.1 hc
          refine lv_tableIn (off := 44) (tgt := 80) hx hb dX8_row_36 (by omega) (by omega) (by rw [hc]; rfl) (by decide) ?_
          refine lv_aload_n hx hb dX8_row_80 rfl (q_at hl 1 rfl) ?_
          refine q_rGR C hp h rfl iX8_row_X8 (by decide) kX8_row_48 dX8_row_81 (fun r_9 h => ?_)
          refine lv_iload hx hb dX8_row_84 (q_at hl 0 rfl) ?_
          refine q_rLI C hp h dX8_row_86 (fun v_10 h => ?_)
          exact q_iret C hp hr h dX8_row_87
        · replace h := h.2.2.1 hc
          refine lv_tableIn (off := 52) (tgt := 88) hx hb dX8_row_36 (by omega) (by omega) (by rw [hc]; rfl) (by decide) ?_
          refine lv_aload_n hx hb dX8_row_88 rfl (q_at hl 1 rfl) ?_
          refine q_rGR C hp h rfl iX8_row_X8 (by decide) kX8_row_51 dX8_row_89 (fun r_11 h => ?_)
          refine lv_iload hx hb dX8_row_92 (q_at hl 0 rfl) ?_
          refine q_rLI C hp h dX8_row_94 (fun v_12 h => ?_)
          exact q_iret C hp hr h dX8_row_95
        · replace h := h.2.2.2.1 hc
          refine lv_tableIn (off := 60) (tgt := 96) hx hb dX8_row_36 (by omega) (by omega) (by rw [hc]; rfl) (by decide) ?_
          refine lv_aload_n hx hb dX8_row_96 rfl (q_at hl 1 rfl) ?_
          refine q_rGR C hp h rfl iX8_row_X8 (by decide) kX8_row_54 dX8_row_97 (fun r_13 h => ?_)
          refine lv_iload hx hb dX8_row_100 (q_at hl 0 rfl) ?_
          refine q_rLI C hp h dX8_row_102 (fun v_14 h => ?_)
          exact q_iret C hp hr h dX8_row_103
        · replace h := h.2.2.2.2.1 hc
          refine lv_tableIn (off := 68) (tgt := 104) hx hb dX8_row_36 (by omega) (by omega) (by rw [hc]; rfl) (by decide) ?_
          refine lv_aload_n hx hb dX8_row_104 rfl (q_at hl 1 rfl) ?_
          refine q_rGR C hp h rfl iX8_row_X8 (by decide) kX8_row_57 dX8_row_105 (fun r_15 h => ?_)
          refine lv_iload hx hb dX8_row_108 (q_at hl 0 rfl) ?_
          refine q_rLI C hp h dX8_row_110 (fun v_16 h => ?_)
          exact q_iret C hp hr h dX8_row_111
        · replace h := h.2.2.2.2.2.1 hc
          refine lv_tableIn (off := 76) (tgt := 112) hx hb dX8_row_36 (by omega) (by omega) (by rw [hc]; rfl) (by decide) ?_
          refine lv_aload_n hx hb dX8_row_112 rfl (q_at hl 1 rfl) ?_
          refine q_rGR C hp h rfl iX8_row_X8 (by decide) kX8_row_60 dX8_row_113 (fun r_17 h => ?_)
          refine lv_iload hx hb dX8_row_116 (q_at hl 0 rfl) ?_
          refine q_rLI C hp h dX8_row_118 (fun v_18 h => ?_)
          exact q_iret C hp hr h dX8_row_119
        · replace h := h.2.2.2.2.2.2.1 hc
          refine lv_tableIn (off := 84) (tgt := 120) hx hb dX8_row_36 (by omega) (by omega) (by rw [hc]; rfl) (by decide) ?_
          refine lv_aload_n hx hb dX8_row_120 rfl (q_at hl 1 rfl) ?_
          refine q_rGR C hp h rfl iX8_row_X8 (by decide) kX8_row_66 dX8_row_121 (fun r_19 h => ?_)
          refine lv_iload hx hb dX8_row_124 (q_at hl 0 rfl) ?_
          refine q_rLI C hp h dX8_row_126 (fun v_20 h => ?_)
          exact q_iret C hp hr h dX8_row_127
        · replace h := h.2.2.2.2.2.2.2 hc
          refine lv_tableIn (off := 92) (tgt := 128) hx hb dX8_row_36 (by omega) (by omega) (by rw [hc]; rfl) (by decide) ?_
          refine lv_aload_n hx hb dX8_row_128 rfl (q_at hl 1 rfl) ?_
          refine q_rGR C hp h rfl iX8_row_X8 (by decide) kX8_row_63 dX8_row_129 (fun r_21 h => ?_)
          refine lv_iload hx hb dX8_row_132 (q_at hl 0 rfl) ?_
          refine q_rLI C hp h dX8_row_134 (fun v_22 h => ?_)
          exact q_iret C hp hr h dX8_row_135
    · replace h := h.2 c_8
      refine lv_bipush (v := (-101)) hx hb dX8_row_24 (by decide) ?_
      exact q_iret C hp hr h dX8_row_26
theorem kX8_written_45 : Cond.fieldLink RX8 45 (TX8 13).1 (TX8 13).2.1 (TX8 13).2.2.1 ∈ wsX8_written := by decide +kernel
theorem kX8_written_66 : Cond.fieldLink RX8 66 (TX8 20).1 (TX8 20).2.1 (TX8 20).2.2.1 ∈ wsX8_written := by decide +kernel
theorem kX8_written_69 : Cond.fieldLink RX8 69 (TX8 21).1 (TX8 21).2.1 (TX8 21).2.2.1 ∈ wsX8_written := by decide +kernel
theorem iX8_written_X8 : ∀ w ∈ u_ws RX8 TX8 36, w ∈ wsX8_written := by decide +kernel
set_option maxHeartbeats 4000000 in
set_option maxRecDepth 100000 in
theorem RX8_written (l : Launch) (D : va_G) (g : q_A) (S : q_S) (a0 : Nat) (x1 : Int32) (x2 : Int32) (x3 : Int32) (x4 : Int32) (Q : Int32 → q_S → Prop) (h : wX8_written a0 x1 x2 x3 x4 Q S) : q_Mi l yX8_written wsX8_written rmX8_written D g [.ref a0, .int x1, .int x2, .int x3, .int x4] S Q := by
  refine q_Mi.of (cc := cX8_written) (nL := 5) (rt := .int) (by decide +kernel) rfl (Nat.le_of_ble_eq_true rfl) rfl ?_
  intro p e s m args below meth c ls A C hr hnm hp hl
  have C : q_X p s m args meth c cX8_written 5 RX8 wsX8_written D g A := C
  have hx := C.1
  have hb := C.2.1
  have hl : q_l ls 5 [(0, .ref a0), (1, .int x1), (2, .int x2), (3, .int x3), (4, .int x4)] := hl
  unfold wX8_written at h
  replace h := h.2
  refine lv_aload_n hx hb dX8_written_0 rfl (q_at hl 0 rfl) ?_
  refine lv_iload_n hx hb dX8_written_1 rfl (q_at hl 1 rfl) ?_
  refine q_finI0 C hp (q_runV (As := [.int x1]) (rest := []) C hp (RX8_isPart l D g _ a0 x1 _ h _) (cwV 1 C.2.2.2.2.1 gX8_written_X8_isPart rfl rfl rfl (by decide +kernel) ⟨(Nat.le_of_ble_eq_true rfl), (Nat.le_of_ble_eq_true rfl)⟩) h.1 rfl rfl hl.1.1 rfl (Nat.le_of_ble_eq_true rfl) dX8_written_2 ⟨(Nat.le_of_ble_eq_true rfl), (Nat.le_of_ble_eq_true rfl)⟩) rfl rfl (fun v_2 S_1 H locs h hp => ?_)
  refine lv_if_eq (tgt := 45) hx hb dX8_written_5 (by decide) (fun c_3 => ?_) (fun c_3 => ?_)
  · replace h := h.1 c_3
    refine lv_bipush (v := (-101)) hx hb dX8_written_45 (by decide) ?_
    exact q_iret C hp hr h dX8_written_47
  · replace h := h.2 c_3
    refine lv_iload_n hx hb dX8_written_8 rfl (q_at hl 2 rfl) ?_
    refine lv_iconst (v := 0) hx hb dX8_written_9 (by decide) ?_
    refine lv_aload_n hx hb dX8_written_10 rfl (q_at hl 0 rfl) ?_
    refine q_rGR C hp h rfl iX8_written_X8 (by decide) kX8_written_45 dX8_written_11 (fun r_4 h => ?_)
    refine lv_iload_n hx hb dX8_written_14 rfl (q_at hl 1 rfl) ?_
    refine q_rLI C hp h dX8_written_15 (fun v_5 h => ?_)
    refine lv_iconst (v := 1) hx hb dX8_written_16 (by decide) ?_
    refine lv_isub hx hb dX8_written_17 ?_
    refine q_finI0 C hp (q_runS (As := [.int x2, .int (0 : Int32), .int (v_5 - (1 : Int32))]) (rest := []) C hp (RX8_in l D g _ x2 (0 : Int32) (v_5 - (1 : Int32)) _ h _) (va_cwS 3 C.2.2.2.2.1 gX8_written_X8_in rfl rfl rfl (by decide +kernel) ⟨(Nat.le_of_ble_eq_true rfl), (Nat.le_of_ble_eq_true rfl)⟩) rfl hl.1.1 rfl (Nat.le_of_ble_eq_true rfl) dX8_written_18 ⟨(Nat.le_of_ble_eq_true rfl), (Nat.le_of_ble_eq_true rfl)⟩) rfl rfl (fun v_7 S_6 H locs h hp => ?_)
    refine lv_if_eq (tgt := 45) hx hb dX8_written_21 (by decide) (fun c_8 => ?_) (fun c_8 => ?_)
    · replace h := h.1 c_8
      refine lv_bipush (v := (-101)) hx hb dX8_written_45 (by decide) ?_
      exact q_iret C hp hr h dX8_written_47
    · replace h := h.2 c_8
      refine lv_iload_n hx hb dX8_written_24 rfl (q_at hl 3 rfl) ?_
      refine lv_iconst (v := 0) hx hb dX8_written_25 (by decide) ?_
      refine lv_aload_n hx hb dX8_written_26 rfl (q_at hl 0 rfl) ?_
      refine q_rGR C hp h rfl iX8_written_X8 (by decide) kX8_written_66 dX8_written_27 (fun r_9 h => ?_)
      refine lv_bipush (v := 40) hx hb dX8_written_30 (by decide) ?_
      refine lv_iload_n hx hb dX8_written_32 rfl (q_at hl 1 rfl) ?_
      refine lv_imul hx hb dX8_written_33 ?_
      refine lv_iload_n hx hb dX8_written_34 rfl (q_at hl 2 rfl) ?_
      refine lv_iadd hx hb dX8_written_35 ?_
      refine q_rLI C hp h dX8_written_36 (fun v_10 h => ?_)
      refine lv_iconst (v := 1) hx hb dX8_written_37 (by decide) ?_
      refine lv_isub hx hb dX8_written_38 ?_
      refine q_finI0 C hp (q_runS (As := [.int x3, .int (0 : Int32), .int (v_10 - (1 : Int32))]) (rest := []) C hp (RX8_in l D g _ x3 (0 : Int32) (v_10 - (1 : Int32)) _ h _) (va_cwS 3 C.2.2.2.2.1 gX8_written_X8_in rfl rfl rfl (by decide +kernel) ⟨(Nat.le_of_ble_eq_true rfl), (Nat.le_of_ble_eq_true rfl)⟩) rfl hl.1.1 rfl (Nat.le_of_ble_eq_true rfl) dX8_written_39 ⟨(Nat.le_of_ble_eq_true rfl), (Nat.le_of_ble_eq_true rfl)⟩) rfl rfl (fun v_12 S_11 H locs h hp => ?_)
      refine lv_if_ne (tgt := 48) hx hb dX8_written_42 (by decide) (fun c_13 => ?_) (fun c_13 => ?_)
      · replace h := h.1 c_13
        refine lv_iload hx hb dX8_written_48 (q_at hl 4 rfl) ?_
        refine lv_iconst (v := 0) hx hb dX8_written_50 (by decide) ?_
        refine lv_iconst (v := 3) hx hb dX8_written_51 (by decide) ?_
        refine q_finI0 C hp (q_runS (As := [.int x4, .int (0 : Int32), .int (3 : Int32)]) (rest := []) C hp (RX8_in l D g _ x4 (0 : Int32) (3 : Int32) _ h _) (va_cwS 3 C.2.2.2.2.1 gX8_written_X8_in rfl rfl rfl (by decide +kernel) ⟨(Nat.le_of_ble_eq_true rfl), (Nat.le_of_ble_eq_true rfl)⟩) rfl hl.1.1 rfl (Nat.le_of_ble_eq_true rfl) dX8_written_52 ⟨(Nat.le_of_ble_eq_true rfl), (Nat.le_of_ble_eq_true rfl)⟩) rfl rfl (fun v_15 S_14 H locs h hp => ?_)
        refine lv_if_eq (tgt := 82) hx hb dX8_written_55 (by decide) (fun c_16 => ?_) (fun c_16 => ?_)
        · replace h := h.1 c_16
          refine lv_bipush (v := (-102)) hx hb dX8_written_82 (by decide) ?_
          exact q_iret C hp hr h dX8_written_84
        · replace h := h.2 c_16
          refine lv_aload_n hx hb dX8_written_58 rfl (q_at hl 0 rfl) ?_
          refine q_rGR C hp h rfl iX8_written_X8 (by decide) kX8_written_69 dX8_written_59 (fun r_17 h => ?_)
          refine lv_bipush (v := 32) hx hb dX8_written_62 (by decide) ?_
          refine lv_bipush (v := 40) hx hb dX8_written_64 (by decide) ?_
          refine lv_iload_n hx hb dX8_written_66 rfl (q_at hl 1 rfl) ?_
          refine lv_imul hx hb dX8_written_67 ?_
          refine lv_iload_n hx hb dX8_written_68 rfl (q_at hl 2 rfl) ?_
          refine lv_iadd hx hb dX8_written_69 ?_
          refine lv_imul hx hb dX8_written_70 ?_
          refine lv_iconst (v := 4) hx hb dX8_written_71 (by decide) ?_
          refine lv_iload_n hx hb dX8_written_72 rfl (q_at hl 3 rfl) ?_
          refine lv_imul hx hb dX8_written_73 ?_
          refine lv_iadd hx hb dX8_written_74 ?_
          refine lv_iload hx hb dX8_written_75 (q_at hl 4 rfl) ?_
          refine lv_iadd hx hb dX8_written_77 ?_
          refine q_rLI C hp h dX8_written_78 (fun v_18 h => ?_)
          refine lv_goto (tgt := 84) hx hb dX8_written_79 (by decide) ?_
          exact q_iret C hp hr h dX8_written_84
      · replace h := h.2 c_13
        refine lv_bipush (v := (-101)) hx hb dX8_written_45 (by decide) ?_
        exact q_iret C hp hr h dX8_written_47
theorem kX8_unlike_45 : Cond.fieldLink RX8 45 (TX8 13).1 (TX8 13).2.1 (TX8 13).2.2.1 ∈ wsX8_unlike := by decide +kernel
theorem iX8_unlike_X8 : ∀ w ∈ u_ws RX8 TX8 36, w ∈ wsX8_unlike := by decide +kernel
set_option maxHeartbeats 4000000 in
set_option maxRecDepth 100000 in
theorem RX8_unlike (l : Launch) (D : va_G) (g : q_A) (S : q_S) (a0 : Nat) (x1 : Int32) (Q : Int32 → q_S → Prop) (h : wX8_unlike a0 x1 Q S) : q_Mi l yX8_unlike wsX8_unlike rmX8_unlike D g [.ref a0, .int x1] S Q := by
  refine q_Mi.of (cc := cX8_unlike) (nL := 3) (rt := .int) (by decide +kernel) rfl (Nat.le_of_ble_eq_true rfl) rfl ?_
  intro p e s m args below meth c ls A C hr hnm hp hl
  have C : q_X p s m args meth c cX8_unlike 3 RX8 wsX8_unlike D g A := C
  have hx := C.1
  have hb := C.2.1
  have hl : q_l ls 3 [(0, .ref a0), (1, .int x1)] := hl
  have j63 : ∀ (a0 : Nat) (x1 : Int32) (x2 : Int32) (S : q_S) (H : Heap) (locs : List Loc) (ls : Array Slot), wX8_unlike_b63 Q a0 x1 x2 S → q_P D g A s.heap S H locs → q_l ls 3 [(0, .ref a0), (1, .int x1), (2, .int x2)] → W p l e rmX8_unlike s m args below meth c H locs 0 0 (MQ below (va_Qi Q (q_B D g A) A) args s rmX8_unlike.cells rmX8_unlike.slots A) (F0 m 63 ls []) := by
    intro a0 x1 x2 S H locs ls h hp hl
    unfold wX8_unlike_b63 at h
    refine lv_iload_n hx hb dX8_unlike_63 rfl (q_at hl 2 rfl) ?_
    refine lv_aload_n hx hb dX8_unlike_64 rfl (q_at hl 0 rfl) ?_
    refine q_rGR C hp h rfl iX8_unlike_X8 (by decide) kX8_unlike_45 dX8_unlike_65 (fun r_1 h => ?_)
    refine lv_iload_n hx hb dX8_unlike_68 rfl (q_at hl 1 rfl) ?_
    refine q_rLI C hp h dX8_unlike_69 (fun v_2 h => ?_)
    refine lv_icmp_ne (tgt := 89) hx hb dX8_unlike_70 (by decide) (fun c_3 => ?_) (fun c_3 => ?_)
    · replace h := h.1 c_3
      refine lv_iload_n hx hb dX8_unlike_89 rfl (q_at hl 2 rfl) ?_
      exact q_iret C hp hr h dX8_unlike_90
    · replace h := h.2 c_3
      refine lv_iload_n hx hb dX8_unlike_73 rfl (q_at hl 2 rfl) ?_
      refine lv_aload_n hx hb dX8_unlike_74 rfl (q_at hl 0 rfl) ?_
      refine q_rGR C hp h rfl iX8_unlike_X8 (by decide) kX8_unlike_45 dX8_unlike_75 (fun r_4 h => ?_)
      refine lv_bipush (v := 6) hx hb dX8_unlike_78 (by decide) ?_
      refine q_rLI C hp h dX8_unlike_80 (fun v_5 h => ?_)
      refine lv_icmp_ne (tgt := 89) hx hb dX8_unlike_81 (by decide) (fun c_6 => ?_) (fun c_6 => ?_)
      · replace h := h.1 c_6
        refine lv_iload_n hx hb dX8_unlike_89 rfl (q_at hl 2 rfl) ?_
        exact q_iret C hp hr h dX8_unlike_90
      · replace h := h.2 c_6
        refine lv_bipush (v := (-100)) hx hb dX8_unlike_84 (by decide) ?_
        refine lv_goto (tgt := 90) hx hb dX8_unlike_86 (by decide) ?_
        exact q_iret C hp hr h dX8_unlike_90
  have j18 : ∀ (n : Nat), ∀ (a0 : Nat) (x1 : Int32) (x2 : Int32) (S : q_S) (H : Heap) (locs : List Loc) (ls : Array Slot), lX8_unlike_b18 Q n a0 x1 x2 S → q_P D g A s.heap S H locs → q_l ls 3 [(0, .ref a0), (1, .int x1), (2, .int x2)] → W p l e rmX8_unlike s m args below meth c H locs 0 0 (MQ below (va_Qi Q (q_B D g A) A) args s rmX8_unlike.cells rmX8_unlike.slots A) (F0 m 18 ls []) := by
    intro n
    induction n with
    | zero => intro a0 x1 x2 S H locs ls h; exact absurd h (fun h => h)
    | succ n ih18 =>
      intro a0 x1 x2 S H locs ls h hp hl
      have h : wX8_unlike_b18 Q (lX8_unlike_b18 Q n) a0 x1 x2 S := h
      unfold wX8_unlike_b18 at h
      refine lv_iload_n hx hb dX8_unlike_18 rfl (q_at hl 2 rfl) ?_
      refine lv_aload_n hx hb dX8_unlike_19 rfl (q_at hl 0 rfl) ?_
      refine q_rGR C hp h rfl iX8_unlike_X8 (by decide) kX8_unlike_45 dX8_unlike_20 (fun r_7 h => ?_)
      refine lv_iload_n hx hb dX8_unlike_23 rfl (q_at hl 1 rfl) ?_
      refine q_rLI C hp h dX8_unlike_24 (fun v_8 h => ?_)
      refine lv_icmp_ge (tgt := 63) hx hb dX8_unlike_25 (by decide) (fun c_9 => ?_) (fun c_9 => ?_)
      · replace h := h.1 c_9
        exact j63 a0 x1 x2 _ _ _ _ h hp (q_sub hl [0, 1, 2] rfl)
      · replace h := h.2 c_9
        refine lv_iload_n hx hb dX8_unlike_28 rfl (q_at hl 2 rfl) ?_
        refine lv_aload_n hx hb dX8_unlike_29 rfl (q_at hl 0 rfl) ?_
        refine q_rGR C hp h rfl iX8_unlike_X8 (by decide) kX8_unlike_45 dX8_unlike_30 (fun r_10 h => ?_)
        refine lv_bipush (v := 6) hx hb dX8_unlike_33 (by decide) ?_
        refine q_rLI C hp h dX8_unlike_35 (fun v_11 h => ?_)
        refine lv_icmp_ge (tgt := 63) hx hb dX8_unlike_36 (by decide) (fun c_12 => ?_) (fun c_12 => ?_)
        · replace h := h.1 c_12
          exact j63 a0 x1 x2 _ _ _ _ h hp (q_sub hl [0, 1, 2] rfl)
        · replace h := h.2 c_12
          refine lv_aload_n hx hb dX8_unlike_39 rfl (q_at hl 0 rfl) ?_
          refine lv_bipush (v := 40) hx hb dX8_unlike_40 (by decide) ?_
          refine lv_iload_n hx hb dX8_unlike_42 rfl (q_at hl 1 rfl) ?_
          refine lv_imul hx hb dX8_unlike_43 ?_
          refine lv_iload_n hx hb dX8_unlike_44 rfl (q_at hl 2 rfl) ?_
          refine lv_iadd hx hb dX8_unlike_45 ?_
          refine lv_sipush (v := 240) hx hb dX8_unlike_46 (by decide) ?_
          refine lv_iload_n hx hb dX8_unlike_49 rfl (q_at hl 2 rfl) ?_
          refine lv_iadd hx hb dX8_unlike_50 ?_
          refine q_finI0 C hp (q_runV (As := [.int (((40 : Int32) * x1) + x2), .int ((240 : Int32) + x2)]) (rest := []) C hp (RX8_isLike l D g _ a0 (((40 : Int32) * x1) + x2) ((240 : Int32) + x2) _ h _) (cwV 2 C.2.2.2.2.1 gX8_unlike_X8_isLike rfl rfl rfl (by decide +kernel) ⟨(Nat.le_of_ble_eq_true rfl), (Nat.le_of_ble_eq_true rfl)⟩) h.1 rfl rfl hl.1.1 rfl (Nat.le_of_ble_eq_true rfl) dX8_unlike_51 ⟨(Nat.le_of_ble_eq_true rfl), (Nat.le_of_ble_eq_true rfl)⟩) rfl rfl (fun v_14 S_13 H locs h hp => ?_)
          refine lv_if_eq (tgt := 63) hx hb dX8_unlike_54 (by decide) (fun c_15 => ?_) (fun c_15 => ?_)
          · replace h := h.1 c_15
            exact j63 a0 x1 x2 _ _ _ _ h hp (q_sub hl [0, 1, 2] rfl)
          · replace h := h.2 c_15
            refine q_inc (x := x2) (v := (x2 + (1 : Int32))) (lv' := [(2, .int (x2 + (1 : Int32))), (0, .ref a0), (1, .int x1)]) hx hb dX8_unlike_57 hl (k := 2) rfl rfl (by decide) rfl (fun ls hl => ?_)
            refine lv_goto (tgt := 18) hx hb dX8_unlike_60 (by decide) ?_
            exact ih18 a0 x1 (x2 + (1 : Int32)) _ _ _ _ h hp (q_sub hl [1, 2, 0] rfl)
  unfold wX8_unlike at h
  replace h := h.2
  refine lv_aload_n hx hb dX8_unlike_0 rfl (q_at hl 0 rfl) ?_
  refine lv_iload_n hx hb dX8_unlike_1 rfl (q_at hl 1 rfl) ?_
  refine q_finI0 C hp (q_runV (As := [.int x1]) (rest := []) C hp (RX8_isPart l D g _ a0 x1 _ h _) (cwV 1 C.2.2.2.2.1 gX8_unlike_X8_isPart rfl rfl rfl (by decide +kernel) ⟨(Nat.le_of_ble_eq_true rfl), (Nat.le_of_ble_eq_true rfl)⟩) h.1 rfl rfl hl.1.1 rfl (Nat.le_of_ble_eq_true rfl) dX8_unlike_2 ⟨(Nat.le_of_ble_eq_true rfl), (Nat.le_of_ble_eq_true rfl)⟩) rfl rfl (fun v_17 S_16 H locs h hp => ?_)
  refine lv_if_ne (tgt := 11) hx hb dX8_unlike_5 (by decide) (fun c_18 => ?_) (fun c_18 => ?_)
  · replace h := h.1 c_18
    refine lv_aload_n hx hb dX8_unlike_11 rfl (q_at hl 0 rfl) ?_
    refine lv_iload_n hx hb dX8_unlike_12 rfl (q_at hl 1 rfl) ?_
    refine q_finV0 C hp (q_runV (As := [.int x1]) (rest := []) C hp (RX8_make l D g _ a0 x1 _ h _) (cwV 1 C.2.2.2.2.1 gX8_unlike_X8_make rfl rfl rfl (by decide +kernel) ⟨(Nat.le_of_ble_eq_true rfl), (Nat.le_of_ble_eq_true rfl)⟩) h.1 rfl rfl hl.1.1 rfl (Nat.le_of_ble_eq_true rfl) dX8_unlike_13 ⟨(Nat.le_of_ble_eq_true rfl), (Nat.le_of_ble_eq_true rfl)⟩) rfl rfl (fun S_19 H locs h hp => ?_)
    refine lv_iconst (v := 0) hx hb dX8_unlike_16 (by decide) ?_
    refine q_istn (lv' := [(2, .int (0 : Int32)), (0, .ref a0), (1, .int x1)]) hx hb dX8_unlike_17 rfl hl (by decide) rfl (fun ls hl => ?_)
    exact j18 q_fuel a0 x1 (0 : Int32) _ _ _ _ h hp (q_sub hl [1, 2, 0] rfl)
  · replace h := h.2 c_18
    refine lv_bipush (v := (-101)) hx hb dX8_unlike_8 (by decide) ?_
    exact q_iret C hp hr h dX8_unlike_10

set_option maxHeartbeats 4000000 in
set_option maxRecDepth 100000 in
theorem RX8_tacet (l : Launch) (D : va_G) (g : q_A) (S : q_S) (a0 : Nat) (x1 : Int32) (Q : Int32 → q_S → Prop) (h : wX8_tacet a0 x1 Q S) : q_Mi l yX8_tacet wsX8_tacet rmX8_tacet D g [.ref a0, .int x1] S Q := by
  refine q_Mi.of (cc := cX8_tacet) (nL := 2) (rt := .int) (by decide +kernel) rfl (Nat.le_of_ble_eq_true rfl) rfl ?_
  intro p e s m args below meth c ls A C hr hnm hp hl
  have C : q_X p s m args meth c cX8_tacet 2 RX8 wsX8_tacet D g A := C
  have hx := C.1
  have hb := C.2.1
  have hl : q_l ls 2 [(0, .ref a0), (1, .int x1)] := hl
  unfold wX8_tacet at h
  replace h := h.2
  refine lv_aload_n hx hb dX8_tacet_0 rfl (q_at hl 0 rfl) ?_
  refine lv_iload_n hx hb dX8_tacet_1 rfl (q_at hl 1 rfl) ?_
  refine q_finI0 C hp (q_runV (As := [.int x1]) (rest := []) C hp (RX8_isVoice l D g _ a0 x1 _ h _) (cwV 1 C.2.2.2.2.1 gX8_tacet_X8_isVoice rfl rfl rfl (by decide +kernel) ⟨(Nat.le_of_ble_eq_true rfl), (Nat.le_of_ble_eq_true rfl)⟩) h.1 rfl rfl hl.1.1 rfl (Nat.le_of_ble_eq_true rfl) dX8_tacet_2 ⟨(Nat.le_of_ble_eq_true rfl), (Nat.le_of_ble_eq_true rfl)⟩) rfl rfl (fun v_2 S_1 H locs h hp => ?_)
  refine lv_if_eq (tgt := 24) hx hb dX8_tacet_5 (by decide) (fun c_3 => ?_) (fun c_3 => ?_)
  · replace h := h.1 c_3
    refine lv_bipush (v := (-101)) hx hb dX8_tacet_24 (by decide) ?_
    exact q_iret C hp hr h dX8_tacet_26
  · replace h := h.2 c_3
    refine lv_aload_n hx hb dX8_tacet_8 rfl (q_at hl 0 rfl) ?_
    refine lv_iload_n hx hb dX8_tacet_9 rfl (q_at hl 1 rfl) ?_
    refine q_finI0 C hp (q_runV (As := [.int x1]) (rest := []) C hp (RX8_isTacet l D g _ a0 x1 _ h _) (cwV 1 C.2.2.2.2.1 gX8_tacet_X8_isTacet rfl rfl rfl (by decide +kernel) ⟨(Nat.le_of_ble_eq_true rfl), (Nat.le_of_ble_eq_true rfl)⟩) h.1 rfl rfl hl.1.1 rfl (Nat.le_of_ble_eq_true rfl) dX8_tacet_10 ⟨(Nat.le_of_ble_eq_true rfl), (Nat.le_of_ble_eq_true rfl)⟩) rfl rfl (fun v_5 S_4 H locs h hp => ?_)
    refine lv_if_eq (tgt := 20) hx hb dX8_tacet_13 (by decide) (fun c_6 => ?_) (fun c_6 => ?_)
    · replace h := h.1 c_6
      refine lv_iconst (v := 0) hx hb dX8_tacet_20 (by decide) ?_
      refine lv_goto (tgt := 26) hx hb dX8_tacet_21 (by decide) ?_
      exact q_iret C hp hr h dX8_tacet_26
    · replace h := h.2 c_6
      refine lv_iconst (v := 1) hx hb dX8_tacet_16 (by decide) ?_
      refine lv_goto (tgt := 26) hx hb dX8_tacet_17 (by decide) ?_
      exact q_iret C hp hr h dX8_tacet_26
theorem kX8_isLongRest_48 : Cond.fieldLink RX8 48 (TX8 14).1 (TX8 14).2.1 (TX8 14).2.2.1 ∈ wsX8_isLongRest := by decide +kernel
theorem kX8_isLongRest_54 : Cond.fieldLink RX8 54 (TX8 16).1 (TX8 16).2.1 (TX8 16).2.2.1 ∈ wsX8_isLongRest := by decide +kernel
theorem iX8_isLongRest_X8 : ∀ w ∈ u_ws RX8 TX8 36, w ∈ wsX8_isLongRest := by decide +kernel
set_option maxHeartbeats 4000000 in
set_option maxRecDepth 100000 in
theorem RX8_isLongRest (l : Launch) (D : va_G) (g : q_A) (S : q_S) (a0 : Nat) (x1 : Int32) (Q : Int32 → q_S → Prop) (h : wX8_isLongRest a0 x1 Q S) : q_Mi l yX8_isLongRest wsX8_isLongRest rmX8_isLongRest D g [.ref a0, .int x1] S Q := by
  refine q_Mi.of (cc := cX8_isLongRest) (nL := 2) (rt := .boolean) (by decide +kernel) rfl (Nat.le_of_ble_eq_true rfl) rfl ?_
  intro p e s m args below meth c ls A C hr hnm hp hl
  have C : q_X p s m args meth c cX8_isLongRest 2 RX8 wsX8_isLongRest D g A := C
  have hx := C.1
  have hb := C.2.1
  have hl : q_l ls 2 [(0, .ref a0), (1, .int x1)] := hl
  unfold wX8_isLongRest at h
  replace h := h.2
  refine lv_aload_n hx hb dX8_isLongRest_0 rfl (q_at hl 0 rfl) ?_
  refine q_rGR C hp h rfl iX8_isLongRest_X8 (by decide) kX8_isLongRest_48 dX8_isLongRest_1 (fun r_1 h => ?_)
  refine lv_iload_n hx hb dX8_isLongRest_4 rfl (q_at hl 1 rfl) ?_
  refine q_rLI C hp h dX8_isLongRest_5 (fun v_2 h => ?_)
  refine lv_iconst (v := 1) hx hb dX8_isLongRest_6 (by decide) ?_
  refine lv_icmp_ne (tgt := 24) hx hb dX8_isLongRest_7 (by decide) (fun c_3 => ?_) (fun c_3 => ?_)
  · replace h := h.1 c_3
    refine lv_iconst (v := 0) hx hb dX8_isLongRest_24 (by decide) ?_
    exact q_zret C hp hr h dX8_isLongRest_25
  · replace h := h.2 c_3
    refine lv_aload_n hx hb dX8_isLongRest_10 rfl (q_at hl 0 rfl) ?_
    refine q_rGR C hp h rfl iX8_isLongRest_X8 (by decide) kX8_isLongRest_54 dX8_isLongRest_11 (fun r_4 h => ?_)
    refine lv_iload_n hx hb dX8_isLongRest_14 rfl (q_at hl 1 rfl) ?_
    refine q_rLI C hp h dX8_isLongRest_15 (fun v_5 h => ?_)
    refine lv_iconst (v := 2) hx hb dX8_isLongRest_16 (by decide) ?_
    refine lv_icmp_lt (tgt := 24) hx hb dX8_isLongRest_17 (by decide) (fun c_6 => ?_) (fun c_6 => ?_)
    · replace h := h.1 c_6
      refine lv_iconst (v := 0) hx hb dX8_isLongRest_24 (by decide) ?_
      exact q_zret C hp hr h dX8_isLongRest_25
    · replace h := h.2 c_6
      refine lv_iconst (v := 1) hx hb dX8_isLongRest_20 (by decide) ?_
      refine lv_goto (tgt := 25) hx hb dX8_isLongRest_21 (by decide) ?_
      exact q_zret C hp hr h dX8_isLongRest_25
theorem kX8_lines_45 : Cond.fieldLink RX8 45 (TX8 13).1 (TX8 13).2.1 (TX8 13).2.2.1 ∈ wsX8_lines := by decide +kernel
theorem kX8_lines_57 : Cond.fieldLink RX8 57 (TX8 17).1 (TX8 17).2.1 (TX8 17).2.2.1 ∈ wsX8_lines := by decide +kernel
theorem kX8_lines_72 : Cond.fieldLink RX8 72 (TX8 22).1 (TX8 22).2.1 (TX8 22).2.2.1 ∈ wsX8_lines := by decide +kernel
theorem kX8_lines_78 : Cond.fieldLink RX8 78 (TX8 24).1 (TX8 24).2.1 (TX8 24).2.2.1 ∈ wsX8_lines := by decide +kernel
theorem kX8_lines_169 : Cond.fieldLink RX8 169 (TX8 25).1 (TX8 25).2.1 (TX8 25).2.2.1 ∈ wsX8_lines := by decide +kernel
theorem iX8_lines_X8 : ∀ w ∈ u_ws RX8 TX8 36, w ∈ wsX8_lines := by decide +kernel
set_option maxHeartbeats 4000000 in
set_option maxRecDepth 100000 in
theorem RX8_lines (l : Launch) (D : va_G) (g : q_A) (S : q_S) (a0 : Nat) (x1 : Int32) (Q : q_S → Prop) (h : wX8_lines a0 x1 Q S) : q_Mv l yX8_lines wsX8_lines rmX8_lines D g [.ref a0, .int x1] S Q := by
  refine q_Mv.of (cc := cX8_lines) (nL := 5) (by decide +kernel) rfl (Nat.le_of_ble_eq_true rfl) rfl ?_
  intro p e s m args below meth c ls A C hr hnm hp hl
  have C : q_X p s m args meth c cX8_lines 5 RX8 wsX8_lines D g A := C
  have hx := C.1
  have hb := C.2.1
  have hl : q_l ls 5 [(0, .ref a0), (1, .int x1)] := hl
  have j69 : ∀ (k9 : Nat → Int32 → Int32 → Int32 → q_S → Prop) (ih9 : ∀ (a0 : Nat) (x1 : Int32) (x2 : Int32) (x3 : Int32) (S : q_S) (H : Heap) (locs : List Loc) (ls : Array Slot), k9 a0 x1 x2 x3 S → q_P D g A s.heap S H locs → q_l ls 5 [(0, .ref a0), (1, .int x1), (2, .int x2), (3, .int x3)] → W p l e rmX8_lines s m args below meth c H locs 0 0 (MQ below (va_Qv Q (q_B D g A) A) args s rmX8_lines.cells rmX8_lines.slots A) (F0 m 9 ls [])) (a0 : Nat) (x1 : Int32) (x2 : Int32) (x3 : Int32) (x4 : Int32) (S : q_S) (H : Heap) (locs : List Loc) (ls : Array Slot), wX8_lines_b69 Q k9 a0 x1 x2 x3 x4 S → q_P D g A s.heap S H locs → q_l ls 5 [(0, .ref a0), (1, .int x1), (2, .int x2), (3, .int x3), (4, .int x4)] → W p l e rmX8_lines s m args below meth c H locs 0 0 (MQ below (va_Qv Q (q_B D g A) A) args s rmX8_lines.cells rmX8_lines.slots A) (F0 m 69 ls []) := by
    intro k9 ih9 a0 x1 x2 x3 x4 S H locs ls h hp hl
    unfold wX8_lines_b69 at h
    refine lv_iload_n hx hb dX8_lines_69 rfl (q_at hl 2 rfl) ?_
    refine lv_iload hx hb dX8_lines_70 (q_at hl 4 rfl) ?_
    refine lv_iadd hx hb dX8_lines_72 ?_
    refine q_istn (lv' := [(2, .int (x2 + x4)), (0, .ref a0), (1, .int x1), (3, .int x3), (4, .int x4)]) hx hb dX8_lines_73 rfl hl (by decide) rfl (fun ls hl => ?_)
    refine q_inc (x := x3) (v := (x3 + (1 : Int32))) (lv' := [(3, .int (x3 + (1 : Int32))), (2, .int (x2 + x4)), (0, .ref a0), (1, .int x1), (4, .int x4)]) hx hb dX8_lines_74 hl (k := 3) rfl rfl (by decide) rfl (fun ls hl => ?_)
    refine lv_goto (tgt := 9) hx hb dX8_lines_77 (by decide) ?_
    exact ih9 a0 x1 (x2 + x4) (x3 + (1 : Int32)) _ _ _ _ h hp (q_sub hl [2, 3, 1, 0] rfl)
  have j47 : ∀ (k9 : Nat → Int32 → Int32 → Int32 → q_S → Prop) (ih9 : ∀ (a0 : Nat) (x1 : Int32) (x2 : Int32) (x3 : Int32) (S : q_S) (H : Heap) (locs : List Loc) (ls : Array Slot), k9 a0 x1 x2 x3 S → q_P D g A s.heap S H locs → q_l ls 5 [(0, .ref a0), (1, .int x1), (2, .int x2), (3, .int x3)] → W p l e rmX8_lines s m args below meth c H locs 0 0 (MQ below (va_Qv Q (q_B D g A) A) args s rmX8_lines.cells rmX8_lines.slots A) (F0 m 9 ls [])) (a0 : Nat) (x1 : Int32) (x3 : Int32) (x4 : Int32) (S : q_S) (H : Heap) (locs : List Loc) (ls : Array Slot), wX8_lines_b47 Q k9 a0 x1 x3 x4 S → q_P D g A s.heap S H locs → q_l ls 5 [(0, .ref a0), (1, .int x1), (3, .int x3), (4, .int x4)] → W p l e rmX8_lines s m args below meth c H locs 0 0 (MQ below (va_Qv Q (q_B D g A) A) args s rmX8_lines.cells rmX8_lines.slots A) (F0 m 47 ls []) := by
    intro k9 ih9 a0 x1 x3 x4 S H locs ls h hp hl
    unfold wX8_lines_b47 at h
    refine lv_aload_n hx hb dX8_lines_47 rfl (q_at hl 0 rfl) ?_
    refine q_rGR C hp h rfl iX8_lines_X8 (by decide) kX8_lines_78 dX8_lines_48 (fun r_1 h => ?_)
    refine lv_aload_n hx hb dX8_lines_51 rfl (q_at hl 0 rfl) ?_
    refine q_rGI C hp h rfl iX8_lines_X8 (by decide) kX8_lines_169 dX8_lines_52 (fun v_2 h => ?_)
    refine lv_iload_n hx hb dX8_lines_55 rfl (q_at hl 2 rfl) ?_
    refine q_rSI C hp h dX8_lines_56 (fun S_3 H locs h hp => ?_)
    refine lv_aload_n hx hb dX8_lines_57 rfl (q_at hl 0 rfl) ?_
    refine lv_dup hx hb dX8_lines_58 rfl ?_
    refine q_rGI C hp h rfl iX8_lines_X8 (by decide) kX8_lines_169 dX8_lines_59 (fun v_4 h => ?_)
    refine lv_iconst (v := 1) hx hb dX8_lines_62 (by decide) ?_
    refine lv_iadd hx hb dX8_lines_63 ?_
    refine q_rP C hp h tyX8 tyX8_ok nmX8 rfl iX8_lines_X8 (by decide) kX8_lines_169 rfl rfl rfl rfl dX8_lines_64 (fun S_5 H locs h hp => ?_)
    refine lv_iconst (v := 0) hx hb dX8_lines_67 (by decide) ?_
    refine q_istn (lv' := [(2, .int (0 : Int32)), (0, .ref a0), (1, .int x1), (3, .int x3), (4, .int x4)]) hx hb dX8_lines_68 rfl hl (by decide) rfl (fun ls hl => ?_)
    exact j69 k9 ih9 a0 x1 (0 : Int32) x3 x4 _ _ _ _ h hp (q_sub hl [1, 2, 0, 3, 4] rfl)
  have j9 : ∀ (n : Nat), ∀ (a0 : Nat) (x1 : Int32) (x2 : Int32) (x3 : Int32) (S : q_S) (H : Heap) (locs : List Loc) (ls : Array Slot), lX8_lines_b9 Q n a0 x1 x2 x3 S → q_P D g A s.heap S H locs → q_l ls 5 [(0, .ref a0), (1, .int x1), (2, .int x2), (3, .int x3)] → W p l e rmX8_lines s m args below meth c H locs 0 0 (MQ below (va_Qv Q (q_B D g A) A) args s rmX8_lines.cells rmX8_lines.slots A) (F0 m 9 ls []) := by
    intro n
    induction n with
    | zero => intro a0 x1 x2 x3 S H locs ls h; exact absurd h (fun h => h)
    | succ n ih9 =>
      intro a0 x1 x2 x3 S H locs ls h hp hl
      have h : wX8_lines_b9 Q (lX8_lines_b9 Q n) a0 x1 x2 x3 S := h
      unfold wX8_lines_b9 at h
      refine lv_iload_n hx hb dX8_lines_9 rfl (q_at hl 3 rfl) ?_
      refine lv_aload_n hx hb dX8_lines_10 rfl (q_at hl 0 rfl) ?_
      refine q_rGR C hp h rfl iX8_lines_X8 (by decide) kX8_lines_45 dX8_lines_11 (fun r_6 h => ?_)
      refine lv_iload_n hx hb dX8_lines_14 rfl (q_at hl 1 rfl) ?_
      refine q_rLI C hp h dX8_lines_15 (fun v_7 h => ?_)
      refine lv_icmp_ge (tgt := 80) hx hb dX8_lines_16 (by decide) (fun c_8 => ?_) (fun c_8 => ?_)
      · replace h := h.1 c_8
        refine lv_aload_n hx hb dX8_lines_80 rfl (q_at hl 0 rfl) ?_
        refine q_rGR C hp h rfl iX8_lines_X8 (by decide) kX8_lines_78 dX8_lines_81 (fun r_9 h => ?_)
        refine lv_aload_n hx hb dX8_lines_84 rfl (q_at hl 0 rfl) ?_
        refine q_rGI C hp h rfl iX8_lines_X8 (by decide) kX8_lines_169 dX8_lines_85 (fun v_10 h => ?_)
        refine lv_aload_n hx hb dX8_lines_88 rfl (q_at hl 0 rfl) ?_
        refine q_rGR C hp h rfl iX8_lines_X8 (by decide) kX8_lines_45 dX8_lines_89 (fun r_11 h => ?_)
        refine lv_iload_n hx hb dX8_lines_92 rfl (q_at hl 1 rfl) ?_
        refine q_rLI C hp h dX8_lines_93 (fun v_12 h => ?_)
        refine q_rSI C hp h dX8_lines_94 (fun S_13 H locs h hp => ?_)
        exact q_vret C hp hr h dX8_lines_95
      · replace h := h.2 c_8
        refine lv_aload_n hx hb dX8_lines_19 rfl (q_at hl 0 rfl) ?_
        refine q_rGR C hp h rfl iX8_lines_X8 (by decide) kX8_lines_57 dX8_lines_20 (fun r_14 h => ?_)
        refine lv_bipush (v := 40) hx hb dX8_lines_23 (by decide) ?_
        refine lv_iload_n hx hb dX8_lines_25 rfl (q_at hl 1 rfl) ?_
        refine lv_imul hx hb dX8_lines_26 ?_
        refine lv_iload_n hx hb dX8_lines_27 rfl (q_at hl 3 rfl) ?_
        refine lv_iadd hx hb dX8_lines_28 ?_
        refine q_rLI C hp h dX8_lines_29 (fun v_15 h => ?_)
        refine q_ist (lv' := [(4, .int v_15), (0, .ref a0), (1, .int x1), (2, .int x2), (3, .int x3)]) hx hb dX8_lines_30 hl (by decide) rfl (fun ls hl => ?_)
        refine lv_iload_n hx hb dX8_lines_32 rfl (q_at hl 4 rfl) ?_
        refine lv_if_eq (tgt := 47) hx hb dX8_lines_33 (by decide) (fun c_16 => ?_) (fun c_16 => ?_)
        · replace h := h.1 c_16
          exact j47 (lX8_lines_b9 Q n) ih9 a0 x1 x3 v_15 _ _ _ _ h hp (q_sub hl [1, 2, 4, 0] rfl)
        · replace h := h.2 c_16
          refine lv_iload_n hx hb dX8_lines_36 rfl (q_at hl 3 rfl) ?_
          refine lv_iload hx hb dX8_lines_37 (q_at hl 0 rfl) ?_
          refine lv_iadd hx hb dX8_lines_39 ?_
          refine lv_aload_n hx hb dX8_lines_40 rfl (q_at hl 1 rfl) ?_
          refine q_rGI C hp h rfl iX8_lines_X8 (by decide) kX8_lines_72 dX8_lines_41 (fun v_17 h => ?_)
          refine lv_icmp_le (tgt := 69) hx hb dX8_lines_44 (by decide) (fun c_18 => ?_) (fun c_18 => ?_)
          · replace h := h.1 c_18
            exact j69 (lX8_lines_b9 Q n) ih9 a0 x1 x2 x3 v_15 _ _ _ _ h hp (q_sub hl [1, 2, 3, 4, 0] rfl)
          · replace h := h.2 c_18
            exact j47 (lX8_lines_b9 Q n) ih9 a0 x1 x3 v_15 _ _ _ _ h hp (q_sub hl [1, 2, 4, 0] rfl)
  unfold wX8_lines at h
  replace h := h.2
  refine lv_aload_n hx hb dX8_lines_0 rfl (q_at hl 0 rfl) ?_
  refine lv_iconst (v := 0) hx hb dX8_lines_1 (by decide) ?_
  refine q_rP C hp h tyX8 tyX8_ok nmX8 rfl iX8_lines_X8 (by decide) kX8_lines_169 rfl rfl rfl rfl dX8_lines_2 (fun S_19 H locs h hp => ?_)
  refine lv_iconst (v := 0) hx hb dX8_lines_5 (by decide) ?_
  refine q_istn (lv' := [(2, .int (0 : Int32)), (0, .ref a0), (1, .int x1)]) hx hb dX8_lines_6 rfl hl (by decide) rfl (fun ls hl => ?_)
  refine lv_iconst (v := 0) hx hb dX8_lines_7 (by decide) ?_
  refine q_istn (lv' := [(3, .int (0 : Int32)), (2, .int (0 : Int32)), (0, .ref a0), (1, .int x1)]) hx hb dX8_lines_8 rfl hl (by decide) rfl (fun ls hl => ?_)
  exact j9 q_fuel a0 x1 (0 : Int32) (0 : Int32) _ _ _ _ h hp (q_sub hl [2, 3, 1, 0] rfl)
theorem kX8_layPages_75 : Cond.fieldLink RX8 75 (TX8 23).1 (TX8 23).2.1 (TX8 23).2.2.1 ∈ wsX8_layPages := by decide +kernel
theorem kX8_layPages_78 : Cond.fieldLink RX8 78 (TX8 24).1 (TX8 24).2.1 (TX8 24).2.2.1 ∈ wsX8_layPages := by decide +kernel
theorem kX8_layPages_81 : Cond.fieldLink RX8 81 (TX8 27).1 (TX8 27).2.1 (TX8 27).2.2.1 ∈ wsX8_layPages := by decide +kernel
theorem kX8_layPages_84 : Cond.fieldLink RX8 84 (TX8 28).1 (TX8 28).2.1 (TX8 28).2.2.1 ∈ wsX8_layPages := by decide +kernel
theorem kX8_layPages_87 : Cond.fieldLink RX8 87 (TX8 29).1 (TX8 29).2.1 (TX8 29).2.2.1 ∈ wsX8_layPages := by decide +kernel
theorem kX8_layPages_90 : Cond.fieldLink RX8 90 (TX8 30).1 (TX8 30).2.1 (TX8 30).2.2.1 ∈ wsX8_layPages := by decide +kernel
theorem kX8_layPages_169 : Cond.fieldLink RX8 169 (TX8 25).1 (TX8 25).2.1 (TX8 25).2.2.1 ∈ wsX8_layPages := by decide +kernel
theorem kX8_layPages_175 : Cond.fieldLink RX8 175 (TX8 26).1 (TX8 26).2.1 (TX8 26).2.2.1 ∈ wsX8_layPages := by decide +kernel
theorem iX8_layPages_X8 : ∀ w ∈ u_ws RX8 TX8 36, w ∈ wsX8_layPages := by decide +kernel
set_option maxHeartbeats 4000000 in
set_option maxRecDepth 100000 in
theorem RX8_layPages (l : Launch) (D : va_G) (g : q_A) (S : q_S) (a0 : Nat) (x1 : Int32) (Q : q_S → Prop) (h : wX8_layPages a0 x1 Q S) : q_Mv l yX8_layPages wsX8_layPages rmX8_layPages D g [.ref a0, .int x1] S Q := by
  refine q_Mv.of (cc := cX8_layPages) (nL := 7) (by decide +kernel) rfl (Nat.le_of_ble_eq_true rfl) rfl ?_
  intro p e s m args below meth c ls A C hr hnm hp hl
  have C : q_X p s m args meth c cX8_layPages 7 RX8 wsX8_layPages D g A := C
  have hx := C.1
  have hb := C.2.1
  have hl : q_l ls 7 [(0, .ref a0), (1, .int x1)] := hl
  have j136 : ∀ (k12 : Nat → Int32 → Int32 → q_S → Prop) (ih12 : ∀ (a0 : Nat) (x1 : Int32) (x2 : Int32) (S : q_S) (H : Heap) (locs : List Loc) (ls : Array Slot), k12 a0 x1 x2 S → q_P D g A s.heap S H locs → q_l ls 7 [(0, .ref a0), (1, .int x1), (2, .int x2)] → W p l e rmX8_layPages s m args below meth c H locs 0 0 (MQ below (va_Qv Q (q_B D g A) A) args s rmX8_layPages.cells rmX8_layPages.slots A) (F0 m 12 ls [])) (a0 : Nat) (x1 : Int32) (x2 : Int32) (x4 : Int32) (y0 : Int32) (S : q_S) (H : Heap) (locs : List Loc) (ls : Array Slot), wX8_layPages_b136 Q k12 a0 x1 x2 x4 y0 S → q_P D g A s.heap S H locs → q_l ls 7 [(0, .ref a0), (1, .int x1), (2, .int x2), (4, .int x4)] → W p l e rmX8_layPages s m args below meth c H locs 0 0 (MQ below (va_Qv Q (q_B D g A) A) args s rmX8_layPages.cells rmX8_layPages.slots A) (F0 m 136 ls [.int y0]) := by
    intro k12 ih12 a0 x1 x2 x4 y0 S H locs ls h hp hl
    unfold wX8_layPages_b136 at h
    refine q_istn (lv' := [(3, .int y0), (0, .ref a0), (1, .int x1), (2, .int x2), (4, .int x4)]) hx hb dX8_layPages_136 rfl hl (by decide) rfl (fun ls hl => ?_)
    refine lv_aload_n hx hb dX8_layPages_137 rfl (q_at hl 1 rfl) ?_
    refine q_rGR C hp h rfl iX8_layPages_X8 (by decide) kX8_layPages_81 dX8_layPages_138 (fun r_1 h => ?_)
    refine lv_aload_n hx hb dX8_layPages_141 rfl (q_at hl 1 rfl) ?_
    refine q_rGI C hp h rfl iX8_layPages_X8 (by decide) kX8_layPages_175 dX8_layPages_142 (fun v_2 h => ?_)
    refine lv_aload_n hx hb dX8_layPages_145 rfl (q_at hl 1 rfl) ?_
    refine q_rGR C hp h rfl iX8_layPages_X8 (by decide) kX8_layPages_78 dX8_layPages_146 (fun r_3 h => ?_)
    refine lv_iload_n hx hb dX8_layPages_149 rfl (q_at hl 3 rfl) ?_
    refine q_rLI C hp h dX8_layPages_150 (fun v_4 h => ?_)
    refine q_rSI C hp h dX8_layPages_151 (fun S_5 H locs h hp => ?_)
    refine lv_aload_n hx hb dX8_layPages_152 rfl (q_at hl 1 rfl) ?_
    refine q_rGR C hp h rfl iX8_layPages_X8 (by decide) kX8_layPages_84 dX8_layPages_153 (fun r_6 h => ?_)
    refine lv_aload_n hx hb dX8_layPages_156 rfl (q_at hl 1 rfl) ?_
    refine q_rGI C hp h rfl iX8_layPages_X8 (by decide) kX8_layPages_175 dX8_layPages_157 (fun v_7 h => ?_)
    refine lv_aload_n hx hb dX8_layPages_160 rfl (q_at hl 1 rfl) ?_
    refine q_rGR C hp h rfl iX8_layPages_X8 (by decide) kX8_layPages_78 dX8_layPages_161 (fun r_8 h => ?_)
    refine lv_iload_n hx hb dX8_layPages_164 rfl (q_at hl 3 rfl) ?_
    refine lv_iload_n hx hb dX8_layPages_165 rfl (q_at hl 0 rfl) ?_
    refine lv_iadd hx hb dX8_layPages_166 ?_
    refine q_rLI C hp h dX8_layPages_167 (fun v_9 h => ?_)
    refine lv_aload_n hx hb dX8_layPages_168 rfl (q_at hl 1 rfl) ?_
    refine q_rGR C hp h rfl iX8_layPages_X8 (by decide) kX8_layPages_78 dX8_layPages_169 (fun r_10 h => ?_)
    refine lv_iload_n hx hb dX8_layPages_172 rfl (q_at hl 3 rfl) ?_
    refine q_rLI C hp h dX8_layPages_173 (fun v_11 h => ?_)
    refine lv_isub hx hb dX8_layPages_174 ?_
    refine q_rSI C hp h dX8_layPages_175 (fun S_12 H locs h hp => ?_)
    refine lv_aload_n hx hb dX8_layPages_176 rfl (q_at hl 1 rfl) ?_
    refine q_rGR C hp h rfl iX8_layPages_X8 (by decide) kX8_layPages_87 dX8_layPages_177 (fun r_13 h => ?_)
    refine lv_aload_n hx hb dX8_layPages_180 rfl (q_at hl 1 rfl) ?_
    refine q_rGI C hp h rfl iX8_layPages_X8 (by decide) kX8_layPages_175 dX8_layPages_181 (fun v_14 h => ?_)
    refine lv_iload_n hx hb dX8_layPages_184 rfl (q_at hl 0 rfl) ?_
    refine q_rSI C hp h dX8_layPages_185 (fun S_15 H locs h hp => ?_)
    refine lv_aload_n hx hb dX8_layPages_186 rfl (q_at hl 1 rfl) ?_
    refine q_rGR C hp h rfl iX8_layPages_X8 (by decide) kX8_layPages_90 dX8_layPages_187 (fun r_16 h => ?_)
    refine lv_aload_n hx hb dX8_layPages_190 rfl (q_at hl 1 rfl) ?_
    refine q_rGI C hp h rfl iX8_layPages_X8 (by decide) kX8_layPages_175 dX8_layPages_191 (fun v_17 h => ?_)
    refine lv_iload hx hb dX8_layPages_194 (q_at hl 4 rfl) ?_
    refine q_rSZ C hp h dX8_layPages_196 (fun S_18 H locs h hp => ?_)
    refine lv_aload_n hx hb dX8_layPages_197 rfl (q_at hl 1 rfl) ?_
    refine lv_dup hx hb dX8_layPages_198 rfl ?_
    refine q_rGI C hp h rfl iX8_layPages_X8 (by decide) kX8_layPages_175 dX8_layPages_199 (fun v_19 h => ?_)
    refine lv_iconst (v := 1) hx hb dX8_layPages_202 (by decide) ?_
    refine lv_iadd hx hb dX8_layPages_203 ?_
    refine q_rP C hp h tyX8 tyX8_ok nmX8 rfl iX8_layPages_X8 (by decide) kX8_layPages_175 rfl rfl rfl rfl dX8_layPages_204 (fun S_20 H locs h hp => ?_)
    refine lv_iload_n hx hb dX8_layPages_207 rfl (q_at hl 3 rfl) ?_
    refine lv_iload_n hx hb dX8_layPages_208 rfl (q_at hl 0 rfl) ?_
    refine lv_iadd hx hb dX8_layPages_209 ?_
    refine q_istn (lv' := [(2, .int (x2 + y0)), (3, .int y0), (0, .ref a0), (1, .int x1), (4, .int x4)]) hx hb dX8_layPages_210 rfl hl (by decide) rfl (fun ls hl => ?_)
    refine lv_goto (tgt := 12) hx hb dX8_layPages_211 (by decide) ?_
    exact ih12 a0 x1 (x2 + y0) _ _ _ _ h hp (q_sub hl [2, 3, 0] rfl)
  have j123 : ∀ (k12 : Nat → Int32 → Int32 → q_S → Prop) (ih12 : ∀ (a0 : Nat) (x1 : Int32) (x2 : Int32) (S : q_S) (H : Heap) (locs : List Loc) (ls : Array Slot), k12 a0 x1 x2 S → q_P D g A s.heap S H locs → q_l ls 7 [(0, .ref a0), (1, .int x1), (2, .int x2)] → W p l e rmX8_layPages s m args below meth c H locs 0 0 (MQ below (va_Qv Q (q_B D g A) A) args s rmX8_layPages.cells rmX8_layPages.slots A) (F0 m 12 ls [])) (a0 : Nat) (x1 : Int32) (x2 : Int32) (x3 : Int32) (x4 : Int32) (S : q_S) (H : Heap) (locs : List Loc) (ls : Array Slot), wX8_layPages_b123 Q k12 a0 x1 x2 x3 x4 S → q_P D g A s.heap S H locs → q_l ls 7 [(0, .ref a0), (1, .int x1), (2, .int x2), (3, .int x3), (4, .int x4)] → W p l e rmX8_layPages s m args below meth c H locs 0 0 (MQ below (va_Qv Q (q_B D g A) A) args s rmX8_layPages.cells rmX8_layPages.slots A) (F0 m 123 ls []) := by
    intro k12 ih12 a0 x1 x2 x3 x4 S H locs ls h hp hl
    unfold wX8_layPages_b123 at h
    refine lv_iload hx hb dX8_layPages_123 (q_at hl 4 rfl) ?_
    refine lv_if_eq (tgt := 132) hx hb dX8_layPages_125 (by decide) (fun c_21 => ?_) (fun c_21 => ?_)
    · replace h := h.1 c_21
      refine lv_aload_n hx hb dX8_layPages_132 rfl (q_at hl 0 rfl) ?_
      refine q_rGI C hp h rfl iX8_layPages_X8 (by decide) kX8_layPages_75 dX8_layPages_133 (fun v_22 h => ?_)
      exact j136 k12 ih12 a0 x1 x2 x4 v_22 _ _ _ _ h hp (q_sub hl [0, 1, 2, 4] rfl)
    · replace h := h.2 c_21
      refine lv_iload_n hx hb dX8_layPages_128 rfl (q_at hl 3 rfl) ?_
      refine lv_goto (tgt := 136) hx hb dX8_layPages_129 (by decide) ?_
      exact j136 k12 ih12 a0 x1 x2 x4 x3 _ _ _ _ h hp (q_sub hl [0, 1, 2, 4] rfl)
  have j117 : ∀ (k48 : Nat → Int32 → Int32 → Int32 → Int32 → Int32 → q_S → Prop) (ih48 : ∀ (a0 : Nat) (x1 : Int32) (x2 : Int32) (x3 : Int32) (x4 : Int32) (x5 : Int32) (S : q_S) (H : Heap) (locs : List Loc) (ls : Array Slot), k48 a0 x1 x2 x3 x4 x5 S → q_P D g A s.heap S H locs → q_l ls 7 [(0, .ref a0), (1, .int x1), (2, .int x2), (3, .int x3), (4, .int x4), (5, .int x5)] → W p l e rmX8_layPages s m args below meth c H locs 0 0 (MQ below (va_Qv Q (q_B D g A) A) args s rmX8_layPages.cells rmX8_layPages.slots A) (F0 m 48 ls [])) (a0 : Nat) (x1 : Int32) (x2 : Int32) (x3 : Int32) (x4 : Int32) (x5 : Int32) (S : q_S) (H : Heap) (locs : List Loc) (ls : Array Slot), wX8_layPages_b117 Q k48 a0 x1 x2 x3 x4 x5 S → q_P D g A s.heap S H locs → q_l ls 7 [(0, .ref a0), (1, .int x1), (2, .int x2), (3, .int x3), (4, .int x4), (5, .int x5)] → W p l e rmX8_layPages s m args below meth c H locs 0 0 (MQ below (va_Qv Q (q_B D g A) A) args s rmX8_layPages.cells rmX8_layPages.slots A) (F0 m 117 ls []) := by
    intro k48 ih48 a0 x1 x2 x3 x4 x5 S H locs ls h hp hl
    unfold wX8_layPages_b117 at h
    refine q_inc (x := x5) (v := (x5 + (-1 : Int32))) (lv' := [(5, .int (x5 + (-1 : Int32))), (0, .ref a0), (1, .int x1), (2, .int x2), (3, .int x3), (4, .int x4)]) hx hb dX8_layPages_117 hl (k := 5) rfl rfl (by decide) rfl (fun ls hl => ?_)
    refine lv_goto (tgt := 48) hx hb dX8_layPages_120 (by decide) ?_
    exact ih48 a0 x1 x2 x3 x4 (x5 + (-1 : Int32)) _ _ _ _ h hp (q_sub hl [1, 2, 3, 4, 5, 0] rfl)
  have j111 : ∀ (k48 : Nat → Int32 → Int32 → Int32 → Int32 → Int32 → q_S → Prop) (ih48 : ∀ (a0 : Nat) (x1 : Int32) (x2 : Int32) (x3 : Int32) (x4 : Int32) (x5 : Int32) (S : q_S) (H : Heap) (locs : List Loc) (ls : Array Slot), k48 a0 x1 x2 x3 x4 x5 S → q_P D g A s.heap S H locs → q_l ls 7 [(0, .ref a0), (1, .int x1), (2, .int x2), (3, .int x3), (4, .int x4), (5, .int x5)] → W p l e rmX8_layPages s m args below meth c H locs 0 0 (MQ below (va_Qv Q (q_B D g A) A) args s rmX8_layPages.cells rmX8_layPages.slots A) (F0 m 48 ls [])) (a0 : Nat) (x1 : Int32) (x2 : Int32) (x5 : Int32) (S : q_S) (H : Heap) (locs : List Loc) (ls : Array Slot), wX8_layPages_b111 Q k48 a0 x1 x2 x5 S → q_P D g A s.heap S H locs → q_l ls 7 [(0, .ref a0), (1, .int x1), (2, .int x2), (5, .int x5)] → W p l e rmX8_layPages s m args below meth c H locs 0 0 (MQ below (va_Qv Q (q_B D g A) A) args s rmX8_layPages.cells rmX8_layPages.slots A) (F0 m 111 ls []) := by
    intro k48 ih48 a0 x1 x2 x5 S H locs ls h hp hl
    unfold wX8_layPages_b111 at h
    refine lv_iload hx hb dX8_layPages_111 (q_at hl 3 rfl) ?_
    refine q_istn (lv' := [(3, .int x5), (0, .ref a0), (1, .int x1), (2, .int x2), (5, .int x5)]) hx hb dX8_layPages_113 rfl hl (by decide) rfl (fun ls hl => ?_)
    refine lv_iconst (v := 1) hx hb dX8_layPages_114 (by decide) ?_
    refine q_ist (lv' := [(4, .int (1 : Int32)), (3, .int x5), (0, .ref a0), (1, .int x1), (2, .int x2), (5, .int x5)]) hx hb dX8_layPages_115 hl (by decide) rfl (fun ls hl => ?_)
    exact j117 k48 ih48 a0 x1 x2 x5 (1 : Int32) x5 _ _ _ _ h hp (q_sub hl [2, 3, 4, 1, 0, 5] rfl)
  have j48 : ∀ (k12 : Nat → Int32 → Int32 → q_S → Prop) (ih12 : ∀ (a0 : Nat) (x1 : Int32) (x2 : Int32) (S : q_S) (H : Heap) (locs : List Loc) (ls : Array Slot), k12 a0 x1 x2 S → q_P D g A s.heap S H locs → q_l ls 7 [(0, .ref a0), (1, .int x1), (2, .int x2)] → W p l e rmX8_layPages s m args below meth c H locs 0 0 (MQ below (va_Qv Q (q_B D g A) A) args s rmX8_layPages.cells rmX8_layPages.slots A) (F0 m 12 ls [])) (n : Nat), ∀ (a0 : Nat) (x1 : Int32) (x2 : Int32) (x3 : Int32) (x4 : Int32) (x5 : Int32) (S : q_S) (H : Heap) (locs : List Loc) (ls : Array Slot), lX8_layPages_b48 Q k12 n a0 x1 x2 x3 x4 x5 S → q_P D g A s.heap S H locs → q_l ls 7 [(0, .ref a0), (1, .int x1), (2, .int x2), (3, .int x3), (4, .int x4), (5, .int x5)] → W p l e rmX8_layPages s m args below meth c H locs 0 0 (MQ below (va_Qv Q (q_B D g A) A) args s rmX8_layPages.cells rmX8_layPages.slots A) (F0 m 48 ls []) := by
    intro k12 ih12
    intro n
    induction n with
    | zero => intro a0 x1 x2 x3 x4 x5 S H locs ls h; exact absurd h (fun h => h)
    | succ n ih48 =>
      intro a0 x1 x2 x3 x4 x5 S H locs ls h hp hl
      have h : wX8_layPages_b48 Q k12 (lX8_layPages_b48 Q k12 n) a0 x1 x2 x3 x4 x5 S := h
      unfold wX8_layPages_b48 at h
      refine lv_iload hx hb dX8_layPages_48 (q_at hl 4 rfl) ?_
      refine lv_if_ne (tgt := 123) hx hb dX8_layPages_50 (by decide) (fun c_23 => ?_) (fun c_23 => ?_)
      · replace h := h.1 c_23
        exact j123 k12 ih12 a0 x1 x2 x3 x4 _ _ _ _ h hp (q_sub hl [0, 1, 2, 3, 4] rfl)
      · replace h := h.2 c_23
        refine lv_iload hx hb dX8_layPages_53 (q_at hl 5 rfl) ?_
        refine lv_iconst (v := 1) hx hb dX8_layPages_55 (by decide) ?_
        refine lv_icmp_lt (tgt := 123) hx hb dX8_layPages_56 (by decide) (fun c_24 => ?_) (fun c_24 => ?_)
        · replace h := h.1 c_24
          exact j123 k12 ih12 a0 x1 x2 x3 x4 _ _ _ _ h hp (q_sub hl [0, 1, 2, 3, 4] rfl)
        · replace h := h.2 c_24
          refine lv_iload hx hb dX8_layPages_59 (q_at hl 5 rfl) ?_
          refine lv_aload_n hx hb dX8_layPages_61 rfl (q_at hl 0 rfl) ?_
          refine q_rGI C hp h rfl iX8_layPages_X8 (by decide) kX8_layPages_75 dX8_layPages_62 (fun v_25 h => ?_)
          refine lv_iconst (v := 2) hx hb dX8_layPages_65 (by decide) ?_
          refine lv_isub hx hb dX8_layPages_66 ?_
          refine lv_icmp_lt (tgt := 123) hx hb dX8_layPages_67 (by decide) (fun c_26 => ?_) (fun c_26 => ?_)
          · replace h := h.1 c_26
            exact j123 k12 ih12 a0 x1 x2 x3 x4 _ _ _ _ h hp (q_sub hl [0, 1, 2, 3, 4] rfl)
          · replace h := h.2 c_26
            refine lv_aload_n hx hb dX8_layPages_70 rfl (q_at hl 0 rfl) ?_
            refine q_rGR C hp h rfl iX8_layPages_X8 (by decide) kX8_layPages_78 dX8_layPages_71 (fun r_27 h => ?_)
            refine lv_iload_n hx hb dX8_layPages_74 rfl (q_at hl 2 rfl) ?_
            refine lv_iload hx hb dX8_layPages_75 (q_at hl 5 rfl) ?_
            refine lv_iadd hx hb dX8_layPages_77 ?_
            refine q_rLI C hp h dX8_layPages_78 (fun v_28 h => ?_)
            refine q_ist (lv' := [(6, .int v_28), (0, .ref a0), (1, .int x1), (2, .int x2), (3, .int x3), (4, .int x4), (5, .int x5)]) hx hb dX8_layPages_79 hl (by decide) rfl (fun ls hl => ?_)
            refine lv_aload_n hx hb dX8_layPages_81 rfl (q_at hl 1 rfl) ?_
            refine lv_bipush (v := 40) hx hb dX8_layPages_82 (by decide) ?_
            refine lv_iload_n hx hb dX8_layPages_84 rfl (q_at hl 2 rfl) ?_
            refine lv_imul hx hb dX8_layPages_85 ?_
            refine lv_iload hx hb dX8_layPages_86 (q_at hl 0 rfl) ?_
            refine lv_iadd hx hb dX8_layPages_88 ?_
            refine lv_iconst (v := 1) hx hb dX8_layPages_89 (by decide) ?_
            refine lv_isub hx hb dX8_layPages_90 ?_
            refine q_finI0 C hp (q_runV (As := [.int ((((40 : Int32) * x1) + v_28) - (1 : Int32))]) (rest := []) C hp (RX8_isLongRest l D g _ a0 ((((40 : Int32) * x1) + v_28) - (1 : Int32)) _ h _) (cwV 1 C.2.2.2.2.1 gX8_layPages_X8_isLongRest rfl rfl rfl (by decide +kernel) ⟨(Nat.le_of_ble_eq_true rfl), (Nat.le_of_ble_eq_true rfl)⟩) h.1 rfl rfl hl.1.1 rfl (Nat.le_of_ble_eq_true rfl) dX8_layPages_91 ⟨(Nat.le_of_ble_eq_true rfl), (Nat.le_of_ble_eq_true rfl)⟩) rfl rfl (fun v_30 S_29 H locs h hp => ?_)
            refine lv_if_ne (tgt := 111) hx hb dX8_layPages_94 (by decide) (fun c_31 => ?_) (fun c_31 => ?_)
            · replace h := h.1 c_31
              exact j111 (lX8_layPages_b48 Q k12 n) ih48 a0 x1 x2 x5 _ _ _ _ h hp (q_sub hl [1, 2, 3, 6] rfl)
            · replace h := h.2 c_31
              refine lv_aload_n hx hb dX8_layPages_97 rfl (q_at hl 1 rfl) ?_
              refine lv_bipush (v := 40) hx hb dX8_layPages_98 (by decide) ?_
              refine lv_iload_n hx hb dX8_layPages_100 rfl (q_at hl 2 rfl) ?_
              refine lv_imul hx hb dX8_layPages_101 ?_
              refine lv_iload hx hb dX8_layPages_102 (q_at hl 0 rfl) ?_
              refine lv_iadd hx hb dX8_layPages_104 ?_
              refine q_finI0 C hp (q_runV (As := [.int (((40 : Int32) * x1) + v_28)]) (rest := []) C hp (RX8_isLongRest l D g _ a0 (((40 : Int32) * x1) + v_28) _ h _) (cwV 1 C.2.2.2.2.1 gX8_layPages_X8_isLongRest rfl rfl rfl (by decide +kernel) ⟨(Nat.le_of_ble_eq_true rfl), (Nat.le_of_ble_eq_true rfl)⟩) h.1 rfl rfl hl.1.1 rfl (Nat.le_of_ble_eq_true rfl) dX8_layPages_105 ⟨(Nat.le_of_ble_eq_true rfl), (Nat.le_of_ble_eq_true rfl)⟩) rfl rfl (fun v_33 S_32 H locs h hp => ?_)
              refine lv_if_eq (tgt := 117) hx hb dX8_layPages_108 (by decide) (fun c_34 => ?_) (fun c_34 => ?_)
              · replace h := h.1 c_34
                exact j117 (lX8_layPages_b48 Q k12 n) ih48 a0 x1 x2 x3 x4 x5 _ _ _ _ h hp (q_sub hl [1, 2, 3, 4, 5, 6] rfl)
              · replace h := h.2 c_34
                exact j111 (lX8_layPages_b48 Q k12 n) ih48 a0 x1 x2 x5 _ _ _ _ h hp (q_sub hl [1, 2, 3, 6] rfl)
  have j40 : ∀ (k12 : Nat → Int32 → Int32 → q_S → Prop) (ih12 : ∀ (a0 : Nat) (x1 : Int32) (x2 : Int32) (S : q_S) (H : Heap) (locs : List Loc) (ls : Array Slot), k12 a0 x1 x2 S → q_P D g A s.heap S H locs → q_l ls 7 [(0, .ref a0), (1, .int x1), (2, .int x2)] → W p l e rmX8_layPages s m args below meth c H locs 0 0 (MQ below (va_Qv Q (q_B D g A) A) args s rmX8_layPages.cells rmX8_layPages.slots A) (F0 m 12 ls [])) (a0 : Nat) (x1 : Int32) (x2 : Int32) (x3 : Int32) (y0 : Int32) (S : q_S) (H : Heap) (locs : List Loc) (ls : Array Slot), wX8_layPages_b40 Q k12 a0 x1 x2 x3 y0 S → q_P D g A s.heap S H locs → q_l ls 7 [(0, .ref a0), (1, .int x1), (2, .int x2), (3, .int x3)] → W p l e rmX8_layPages s m args below meth c H locs 0 0 (MQ below (va_Qv Q (q_B D g A) A) args s rmX8_layPages.cells rmX8_layPages.slots A) (F0 m 40 ls [.int y0]) := by
    intro k12 ih12 a0 x1 x2 x3 y0 S H locs ls h hp hl
    unfold wX8_layPages_b40 at h
    refine q_ist (lv' := [(4, .int y0), (0, .ref a0), (1, .int x1), (2, .int x2), (3, .int x3)]) hx hb dX8_layPages_40 hl (by decide) rfl (fun ls hl => ?_)
    refine lv_aload_n hx hb dX8_layPages_42 rfl (q_at hl 1 rfl) ?_
    refine q_rGI C hp h rfl iX8_layPages_X8 (by decide) kX8_layPages_75 dX8_layPages_43 (fun v_35 h => ?_)
    refine q_ist (lv' := [(5, .int v_35), (4, .int y0), (0, .ref a0), (1, .int x1), (2, .int x2), (3, .int x3)]) hx hb dX8_layPages_46 hl (by decide) rfl (fun ls hl => ?_)
    exact j48 k12 ih12 q_fuel a0 x1 x2 x3 y0 v_35 _ _ _ _ h hp (q_sub hl [2, 3, 4, 5, 1, 0] rfl)
  have j12 : ∀ (n : Nat), ∀ (a0 : Nat) (x1 : Int32) (x2 : Int32) (S : q_S) (H : Heap) (locs : List Loc) (ls : Array Slot), lX8_layPages_b12 Q n a0 x1 x2 S → q_P D g A s.heap S H locs → q_l ls 7 [(0, .ref a0), (1, .int x1), (2, .int x2)] → W p l e rmX8_layPages s m args below meth c H locs 0 0 (MQ below (va_Qv Q (q_B D g A) A) args s rmX8_layPages.cells rmX8_layPages.slots A) (F0 m 12 ls []) := by
    intro n
    induction n with
    | zero => intro a0 x1 x2 S H locs ls h; exact absurd h (fun h => h)
    | succ n ih12 =>
      intro a0 x1 x2 S H locs ls h hp hl
      have h : wX8_layPages_b12 Q (lX8_layPages_b12 Q n) a0 x1 x2 S := h
      unfold wX8_layPages_b12 at h
      refine lv_iload_n hx hb dX8_layPages_12 rfl (q_at hl 2 rfl) ?_
      refine lv_aload_n hx hb dX8_layPages_13 rfl (q_at hl 0 rfl) ?_
      refine q_rGI C hp h rfl iX8_layPages_X8 (by decide) kX8_layPages_169 dX8_layPages_14 (fun v_36 h => ?_)
      refine lv_icmp_ge (tgt := 214) hx hb dX8_layPages_17 (by decide) (fun c_37 => ?_) (fun c_37 => ?_)
      · replace h := h.1 c_37
        exact q_vret C hp hr h dX8_layPages_214
      · replace h := h.2 c_37
        refine lv_aload_n hx hb dX8_layPages_20 rfl (q_at hl 0 rfl) ?_
        refine q_rGI C hp h rfl iX8_layPages_X8 (by decide) kX8_layPages_169 dX8_layPages_21 (fun v_38 h => ?_)
        refine lv_iload_n hx hb dX8_layPages_24 rfl (q_at hl 2 rfl) ?_
        refine lv_isub hx hb dX8_layPages_25 ?_
        refine q_istn (lv' := [(3, .int (v_38 - x2)), (0, .ref a0), (1, .int x1), (2, .int x2)]) hx hb dX8_layPages_26 rfl hl (by decide) rfl (fun ls hl => ?_)
        refine lv_iload_n hx hb dX8_layPages_27 rfl (q_at hl 0 rfl) ?_
        refine lv_aload_n hx hb dX8_layPages_28 rfl (q_at hl 1 rfl) ?_
        refine q_rGI C hp h rfl iX8_layPages_X8 (by decide) kX8_layPages_75 dX8_layPages_29 (fun v_39 h => ?_)
        refine lv_icmp_gt (tgt := 39) hx hb dX8_layPages_32 (by decide) (fun c_40 => ?_) (fun c_40 => ?_)
        · replace h := h.1 c_40
          refine lv_iconst (v := 0) hx hb dX8_layPages_39 (by decide) ?_
          exact j40 (lX8_layPages_b12 Q n) ih12 a0 x1 x2 (v_38 - x2) (0 : Int32) _ _ _ _ h hp (q_sub hl [1, 2, 3, 0] rfl)
        · replace h := h.2 c_40
          refine lv_iconst (v := 1) hx hb dX8_layPages_35 (by decide) ?_
          refine lv_goto (tgt := 40) hx hb dX8_layPages_36 (by decide) ?_
          exact j40 (lX8_layPages_b12 Q n) ih12 a0 x1 x2 (v_38 - x2) (1 : Int32) _ _ _ _ h hp (q_sub hl [1, 2, 3, 0] rfl)
  unfold wX8_layPages at h
  replace h := h.2
  refine lv_aload_n hx hb dX8_layPages_0 rfl (q_at hl 0 rfl) ?_
  refine lv_iload_n hx hb dX8_layPages_1 rfl (q_at hl 1 rfl) ?_
  refine q_finV0 C hp (q_runV (As := [.int x1]) (rest := []) C hp (RX8_lines l D g _ a0 x1 _ h _) (cwV 1 C.2.2.2.2.1 gX8_layPages_X8_lines rfl rfl rfl (by decide +kernel) ⟨(Nat.le_of_ble_eq_true rfl), (Nat.le_of_ble_eq_true rfl)⟩) h.1 rfl rfl hl.1.1 rfl (Nat.le_of_ble_eq_true rfl) dX8_layPages_2 ⟨(Nat.le_of_ble_eq_true rfl), (Nat.le_of_ble_eq_true rfl)⟩) rfl rfl (fun S_41 H locs h hp => ?_)
  refine lv_aload_n hx hb dX8_layPages_5 rfl (q_at hl 0 rfl) ?_
  refine lv_iconst (v := 0) hx hb dX8_layPages_6 (by decide) ?_
  refine q_rP C hp h tyX8 tyX8_ok nmX8 rfl iX8_layPages_X8 (by decide) kX8_layPages_175 rfl rfl rfl rfl dX8_layPages_7 (fun S_42 H locs h hp => ?_)
  refine lv_iconst (v := 0) hx hb dX8_layPages_10 (by decide) ?_
  refine q_istn (lv' := [(2, .int (0 : Int32)), (0, .ref a0), (1, .int x1)]) hx hb dX8_layPages_11 rfl hl (by decide) rfl (fun ls hl => ?_)
  exact j12 q_fuel a0 x1 (0 : Int32) _ _ _ _ h hp (q_sub hl [1, 2, 0] rfl)

set_option maxHeartbeats 4000000 in
set_option maxRecDepth 100000 in
theorem RX8_odd (l : Launch) (D : va_G) (g : q_A) (S : q_S) (x0 : Int32) (Q : Int32 → q_S → Prop) (h : wX8_odd x0 Q S) : q_Mi l yX8_odd wsX8_odd rmX8_odd D g [.int x0] S Q := by
  refine q_Mi.of (cc := cX8_odd) (nL := 1) (rt := .int) (by decide +kernel) rfl (Nat.le_of_ble_eq_true rfl) rfl ?_
  intro p e s m args below meth c ls A C hr hnm hp hl
  have C : q_X p s m args meth c cX8_odd 1 RX8 wsX8_odd D g A := C
  have hx := C.1
  have hb := C.2.1
  have hl : q_l ls 1 [(0, .int x0)] := hl
  unfold wX8_odd at h
  refine lv_iload_n hx hb dX8_odd_0 rfl (q_at hl 0 rfl) ?_
  refine lv_iconst (v := 2) hx hb dX8_odd_1 (by decide) ?_
  refine lv_irem hx hb dX8_odd_2 (by decide) ?_
  refine lv_if_ne (tgt := 12) hx hb dX8_odd_3 (by decide) (fun c_1 => ?_) (fun c_1 => ?_)
  · replace h := h.1 c_1
    refine lv_iload_n hx hb dX8_odd_12 rfl (q_at hl 0 rfl) ?_
    exact q_iret C hp hr h dX8_odd_13
  · replace h := h.2 c_1
    refine lv_iload_n hx hb dX8_odd_6 rfl (q_at hl 0 rfl) ?_
    refine lv_iconst (v := 1) hx hb dX8_odd_7 (by decide) ?_
    refine lv_iadd hx hb dX8_odd_8 ?_
    refine lv_goto (tgt := 13) hx hb dX8_odd_9 (by decide) ?_
    exact q_iret C hp hr h dX8_odd_13
theorem kX8_renew_81 : Cond.fieldLink RX8 81 (TX8 27).1 (TX8 27).2.1 (TX8 27).2.2.1 ∈ wsX8_renew := by decide +kernel
theorem kX8_renew_84 : Cond.fieldLink RX8 84 (TX8 28).1 (TX8 28).2.1 (TX8 28).2.2.1 ∈ wsX8_renew := by decide +kernel
theorem kX8_renew_87 : Cond.fieldLink RX8 87 (TX8 29).1 (TX8 29).2.1 (TX8 29).2.2.1 ∈ wsX8_renew := by decide +kernel
theorem kX8_renew_90 : Cond.fieldLink RX8 90 (TX8 30).1 (TX8 30).2.1 (TX8 30).2.2.1 ∈ wsX8_renew := by decide +kernel
theorem kX8_renew_93 : Cond.fieldLink RX8 93 (TX8 32).1 (TX8 32).2.1 (TX8 32).2.2.1 ∈ wsX8_renew := by decide +kernel
theorem kX8_renew_96 : Cond.fieldLink RX8 96 (TX8 33).1 (TX8 33).2.1 (TX8 33).2.2.1 ∈ wsX8_renew := by decide +kernel
theorem kX8_renew_99 : Cond.fieldLink RX8 99 (TX8 34).1 (TX8 34).2.1 (TX8 34).2.2.1 ∈ wsX8_renew := by decide +kernel
theorem kX8_renew_102 : Cond.fieldLink RX8 102 (TX8 35).1 (TX8 35).2.1 (TX8 35).2.2.1 ∈ wsX8_renew := by decide +kernel
theorem kX8_renew_175 : Cond.fieldLink RX8 175 (TX8 26).1 (TX8 26).2.1 (TX8 26).2.2.1 ∈ wsX8_renew := by decide +kernel
theorem kX8_renew_184 : Cond.fieldLink RX8 184 (TX8 31).1 (TX8 31).2.1 (TX8 31).2.2.1 ∈ wsX8_renew := by decide +kernel
theorem iX8_renew_X8 : ∀ w ∈ u_ws RX8 TX8 36, w ∈ wsX8_renew := by decide +kernel
set_option maxHeartbeats 4000000 in
set_option maxRecDepth 100000 in
theorem RX8_renew (l : Launch) (D : va_G) (g : q_A) (S : q_S) (a0 : Nat) (x1 : Int32) (Q : Int32 → q_S → Prop) (h : wX8_renew a0 x1 Q S) : q_Mi l yX8_renew wsX8_renew rmX8_renew D g [.ref a0, .int x1] S Q := by
  refine q_Mi.of (cc := cX8_renew) (nL := 5) (rt := .int) (by decide +kernel) rfl (Nat.le_of_ble_eq_true rfl) rfl ?_
  intro p e s m args below meth c ls A C hr hnm hp hl
  have C : q_X p s m args meth c cX8_renew 5 RX8 wsX8_renew D g A := C
  have hx := C.1
  have hb := C.2.1
  have hl : q_l ls 5 [(0, .ref a0), (1, .int x1)] := hl
  have j260 : ∀ (a0 : Nat) (x1 : Int32) (x2 : Int32) (S : q_S) (H : Heap) (locs : List Loc) (ls : Array Slot), wX8_renew_b260 Q a0 x1 x2 S → q_P D g A s.heap S H locs → q_l ls 5 [(0, .ref a0), (1, .int x1), (2, .int x2)] → W p l e rmX8_renew s m args below meth c H locs 0 0 (MQ below (va_Qi Q (q_B D g A) A) args s rmX8_renew.cells rmX8_renew.slots A) (F0 m 260 ls []) := by
    intro a0 x1 x2 S H locs ls h hp hl
    unfold wX8_renew_b260 at h
    refine lv_aload_n hx hb dX8_renew_260 rfl (q_at hl 0 rfl) ?_
    refine lv_iload_n hx hb dX8_renew_261 rfl (q_at hl 1 rfl) ?_
    refine q_finV0 C hp (q_runV (As := [.int x1]) (rest := []) C hp (RX8_keep l D g _ a0 x1 _ h _) (cwV 1 C.2.2.2.2.1 gX8_renew_X8_keep rfl rfl rfl (by decide +kernel) ⟨(Nat.le_of_ble_eq_true rfl), (Nat.le_of_ble_eq_true rfl)⟩) h.1 rfl rfl hl.1.1 rfl (Nat.le_of_ble_eq_true rfl) dX8_renew_262 ⟨(Nat.le_of_ble_eq_true rfl), (Nat.le_of_ble_eq_true rfl)⟩) rfl rfl (fun S_1 H locs h hp => ?_)
    refine lv_iload_n hx hb dX8_renew_265 rfl (q_at hl 2 rfl) ?_
    exact q_iret C hp hr h dX8_renew_266
  have j255 : ∀ (k103 : Nat → Int32 → Int32 → Int32 → q_S → Prop) (ih103 : ∀ (a0 : Nat) (x1 : Int32) (x2 : Int32) (x3 : Int32) (S : q_S) (H : Heap) (locs : List Loc) (ls : Array Slot), k103 a0 x1 x2 x3 S → q_P D g A s.heap S H locs → q_l ls 5 [(0, .ref a0), (1, .int x1), (2, .int x2), (3, .int x3)] → W p l e rmX8_renew s m args below meth c H locs 0 0 (MQ below (va_Qi Q (q_B D g A) A) args s rmX8_renew.cells rmX8_renew.slots A) (F0 m 103 ls [])) (a0 : Nat) (x1 : Int32) (x3 : Int32) (y0 : Int32) (y1 : Int32) (S : q_S) (H : Heap) (locs : List Loc) (ls : Array Slot), wX8_renew_b255 Q k103 a0 x1 x3 y0 y1 S → q_P D g A s.heap S H locs → q_l ls 5 [(0, .ref a0), (1, .int x1), (3, .int x3)] → W p l e rmX8_renew s m args below meth c H locs 0 0 (MQ below (va_Qi Q (q_B D g A) A) args s rmX8_renew.cells rmX8_renew.slots A) (F0 m 255 ls [.int y1, .int y0]) := by
    intro k103 ih103 a0 x1 x3 y0 y1 S H locs ls h hp hl
    unfold wX8_renew_b255 at h
    refine lv_iadd hx hb dX8_renew_255 ?_
    refine q_istn (lv' := [(2, .int (y0 + y1)), (0, .ref a0), (1, .int x1), (3, .int x3)]) hx hb dX8_renew_256 rfl hl (by decide) rfl (fun ls hl => ?_)
    refine lv_goto (tgt := 103) hx hb dX8_renew_257 (by decide) ?_
    exact ih103 a0 x1 (y0 + y1) x3 _ _ _ _ h hp (q_sub hl [1, 2, 0, 3] rfl)
  have j245 : ∀ (k103 : Nat → Int32 → Int32 → Int32 → q_S → Prop) (ih103 : ∀ (a0 : Nat) (x1 : Int32) (x2 : Int32) (x3 : Int32) (S : q_S) (H : Heap) (locs : List Loc) (ls : Array Slot), k103 a0 x1 x2 x3 S → q_P D g A s.heap S H locs → q_l ls 5 [(0, .ref a0), (1, .int x1), (2, .int x2), (3, .int x3)] → W p l e rmX8_renew s m args below meth c H locs 0 0 (MQ below (va_Qi Q (q_B D g A) A) args s rmX8_renew.cells rmX8_renew.slots A) (F0 m 103 ls [])) (a0 : Nat) (x1 : Int32) (x2 : Int32) (x3 : Int32) (S : q_S) (H : Heap) (locs : List Loc) (ls : Array Slot), wX8_renew_b245 Q k103 a0 x1 x2 x3 S → q_P D g A s.heap S H locs → q_l ls 5 [(0, .ref a0), (1, .int x1), (2, .int x2), (3, .int x3)] → W p l e rmX8_renew s m args below meth c H locs 0 0 (MQ below (va_Qi Q (q_B D g A) A) args s rmX8_renew.cells rmX8_renew.slots A) (F0 m 245 ls []) := by
    intro k103 ih103 a0 x1 x2 x3 S H locs ls h hp hl
    unfold wX8_renew_b245 at h
    refine lv_iload_n hx hb dX8_renew_245 rfl (q_at hl 2 rfl) ?_
    refine lv_iload_n hx hb dX8_renew_246 rfl (q_at hl 3 rfl) ?_
    refine lv_if_eq (tgt := 254) hx hb dX8_renew_247 (by decide) (fun c_2 => ?_) (fun c_2 => ?_)
    · replace h := h.1 c_2
      refine lv_iconst (v := 0) hx hb dX8_renew_254 (by decide) ?_
      exact j255 k103 ih103 a0 x1 x3 x2 (0 : Int32) _ _ _ _ h hp (q_sub hl [0, 1, 3] rfl)
    · replace h := h.2 c_2
      refine lv_iconst (v := 1) hx hb dX8_renew_250 (by decide) ?_
      refine lv_goto (tgt := 255) hx hb dX8_renew_251 (by decide) ?_
      exact j255 k103 ih103 a0 x1 x3 x2 (1 : Int32) _ _ _ _ h hp (q_sub hl [0, 1, 3] rfl)
  have j192 : ∀ (k103 : Nat → Int32 → Int32 → Int32 → q_S → Prop) (ih103 : ∀ (a0 : Nat) (x1 : Int32) (x2 : Int32) (x3 : Int32) (S : q_S) (H : Heap) (locs : List Loc) (ls : Array Slot), k103 a0 x1 x2 x3 S → q_P D g A s.heap S H locs → q_l ls 5 [(0, .ref a0), (1, .int x1), (2, .int x2), (3, .int x3)] → W p l e rmX8_renew s m args below meth c H locs 0 0 (MQ below (va_Qi Q (q_B D g A) A) args s rmX8_renew.cells rmX8_renew.slots A) (F0 m 103 ls [])) (n : Nat), ∀ (a0 : Nat) (x1 : Int32) (x2 : Int32) (x3 : Int32) (x4 : Int32) (S : q_S) (H : Heap) (locs : List Loc) (ls : Array Slot), lX8_renew_b192 Q k103 n a0 x1 x2 x3 x4 S → q_P D g A s.heap S H locs → q_l ls 5 [(0, .ref a0), (1, .int x1), (2, .int x2), (3, .int x3), (4, .int x4)] → W p l e rmX8_renew s m args below meth c H locs 0 0 (MQ below (va_Qi Q (q_B D g A) A) args s rmX8_renew.cells rmX8_renew.slots A) (F0 m 192 ls []) := by
    intro k103 ih103
    intro n
    induction n with
    | zero => intro a0 x1 x2 x3 x4 S H locs ls h; exact absurd h (fun h => h)
    | succ n ih192 =>
      intro a0 x1 x2 x3 x4 S H locs ls h hp hl
      have h : wX8_renew_b192 Q k103 (lX8_renew_b192 Q k103 n) a0 x1 x2 x3 x4 S := h
      unfold wX8_renew_b192 at h
      refine lv_iload_n hx hb dX8_renew_192 rfl (q_at hl 3 rfl) ?_
      refine lv_if_eq (tgt := 245) hx hb dX8_renew_193 (by decide) (fun c_3 => ?_) (fun c_3 => ?_)
      · replace h := h.1 c_3
        exact j245 k103 ih103 a0 x1 x2 x3 _ _ _ _ h hp (q_sub hl [0, 1, 2, 3] rfl)
      · replace h := h.2 c_3
        refine lv_iload hx hb dX8_renew_196 (q_at hl 4 rfl) ?_
        refine lv_aload_n hx hb dX8_renew_198 rfl (q_at hl 0 rfl) ?_
        refine q_rGR C hp h rfl iX8_renew_X8 (by decide) kX8_renew_84 dX8_renew_199 (fun r_4 h => ?_)
        refine lv_iload_n hx hb dX8_renew_202 rfl (q_at hl 2 rfl) ?_
        refine q_rLI C hp h dX8_renew_203 (fun v_5 h => ?_)
        refine lv_icmp_ge (tgt := 245) hx hb dX8_renew_204 (by decide) (fun c_6 => ?_) (fun c_6 => ?_)
        · replace h := h.1 c_6
          exact j245 k103 ih103 a0 x1 x2 x3 _ _ _ _ h hp (q_sub hl [0, 1, 2, 3] rfl)
        · replace h := h.2 c_6
          refine lv_aload_n hx hb dX8_renew_207 rfl (q_at hl 0 rfl) ?_
          refine lv_bipush (v := 40) hx hb dX8_renew_208 (by decide) ?_
          refine lv_iload_n hx hb dX8_renew_210 rfl (q_at hl 1 rfl) ?_
          refine lv_imul hx hb dX8_renew_211 ?_
          refine lv_aload_n hx hb dX8_renew_212 rfl (q_at hl 0 rfl) ?_
          refine q_rGR C hp h rfl iX8_renew_X8 (by decide) kX8_renew_81 dX8_renew_213 (fun r_7 h => ?_)
          refine lv_iload_n hx hb dX8_renew_216 rfl (q_at hl 2 rfl) ?_
          refine q_rLI C hp h dX8_renew_217 (fun v_8 h => ?_)
          refine lv_iadd hx hb dX8_renew_218 ?_
          refine lv_iload hx hb dX8_renew_219 (q_at hl 4 rfl) ?_
          refine lv_iadd hx hb dX8_renew_221 ?_
          refine lv_sipush (v := 240) hx hb dX8_renew_222 (by decide) ?_
          refine lv_aload_n hx hb dX8_renew_225 rfl (q_at hl 0 rfl) ?_
          refine q_rGR C hp h rfl iX8_renew_X8 (by decide) kX8_renew_81 dX8_renew_226 (fun r_9 h => ?_)
          refine lv_iload_n hx hb dX8_renew_229 rfl (q_at hl 2 rfl) ?_
          refine q_rLI C hp h dX8_renew_230 (fun v_10 h => ?_)
          refine lv_iadd hx hb dX8_renew_231 ?_
          refine lv_iload hx hb dX8_renew_232 (q_at hl 4 rfl) ?_
          refine lv_iadd hx hb dX8_renew_234 ?_
          refine q_finI0 C hp (q_runV (As := [.int ((((40 : Int32) * x1) + v_8) + x4), .int (((240 : Int32) + v_10) + x4)]) (rest := []) C hp (RX8_isLike l D g _ a0 ((((40 : Int32) * x1) + v_8) + x4) (((240 : Int32) + v_10) + x4) _ h _) (cwV 2 C.2.2.2.2.1 gX8_renew_X8_isLike rfl rfl rfl (by decide +kernel) ⟨(Nat.le_of_ble_eq_true rfl), (Nat.le_of_ble_eq_true rfl)⟩) h.1 rfl rfl hl.1.1 rfl (Nat.le_of_ble_eq_true rfl) dX8_renew_235 ⟨(Nat.le_of_ble_eq_true rfl), (Nat.le_of_ble_eq_true rfl)⟩) rfl rfl (fun v_12 S_11 H locs h hp => ?_)
          refine q_istn (lv' := [(3, .int v_12), (0, .ref a0), (1, .int x1), (2, .int x2), (4, .int x4)]) hx hb dX8_renew_238 rfl hl (by decide) rfl (fun ls hl => ?_)
          refine q_inc (x := x4) (v := (x4 + (1 : Int32))) (lv' := [(4, .int (x4 + (1 : Int32))), (3, .int v_12), (0, .ref a0), (1, .int x1), (2, .int x2)]) hx hb dX8_renew_239 hl (k := 4) rfl rfl (by decide) rfl (fun ls hl => ?_)
          refine lv_goto (tgt := 192) hx hb dX8_renew_242 (by decide) ?_
          exact ih192 a0 x1 x2 v_12 (x4 + (1 : Int32)) _ _ _ _ h hp (q_sub hl [2, 3, 4, 1, 0] rfl)
  have j188 : ∀ (k103 : Nat → Int32 → Int32 → Int32 → q_S → Prop) (ih103 : ∀ (a0 : Nat) (x1 : Int32) (x2 : Int32) (x3 : Int32) (S : q_S) (H : Heap) (locs : List Loc) (ls : Array Slot), k103 a0 x1 x2 x3 S → q_P D g A s.heap S H locs → q_l ls 5 [(0, .ref a0), (1, .int x1), (2, .int x2), (3, .int x3)] → W p l e rmX8_renew s m args below meth c H locs 0 0 (MQ below (va_Qi Q (q_B D g A) A) args s rmX8_renew.cells rmX8_renew.slots A) (F0 m 103 ls [])) (a0 : Nat) (x1 : Int32) (x2 : Int32) (y0 : Int32) (S : q_S) (H : Heap) (locs : List Loc) (ls : Array Slot), wX8_renew_b188 Q k103 a0 x1 x2 y0 S → q_P D g A s.heap S H locs → q_l ls 5 [(0, .ref a0), (1, .int x1), (2, .int x2)] → W p l e rmX8_renew s m args below meth c H locs 0 0 (MQ below (va_Qi Q (q_B D g A) A) args s rmX8_renew.cells rmX8_renew.slots A) (F0 m 188 ls [.int y0]) := by
    intro k103 ih103 a0 x1 x2 y0 S H locs ls h hp hl
    unfold wX8_renew_b188 at h
    refine q_istn (lv' := [(3, .int y0), (0, .ref a0), (1, .int x1), (2, .int x2)]) hx hb dX8_renew_188 rfl hl (by decide) rfl (fun ls hl => ?_)
    refine lv_iconst (v := 0) hx hb dX8_renew_189 (by decide) ?_
    refine q_ist (lv' := [(4, .int (0 : Int32)), (3, .int y0), (0, .ref a0), (1, .int x1), (2, .int x2)]) hx hb dX8_renew_190 hl (by decide) rfl (fun ls hl => ?_)
    exact j192 k103 ih103 q_fuel a0 x1 x2 y0 (0 : Int32) _ _ _ _ h hp (q_sub hl [2, 3, 4, 1, 0] rfl)
  have j187 : ∀ (k103 : Nat → Int32 → Int32 → Int32 → q_S → Prop) (ih103 : ∀ (a0 : Nat) (x1 : Int32) (x2 : Int32) (x3 : Int32) (S : q_S) (H : Heap) (locs : List Loc) (ls : Array Slot), k103 a0 x1 x2 x3 S → q_P D g A s.heap S H locs → q_l ls 5 [(0, .ref a0), (1, .int x1), (2, .int x2), (3, .int x3)] → W p l e rmX8_renew s m args below meth c H locs 0 0 (MQ below (va_Qi Q (q_B D g A) A) args s rmX8_renew.cells rmX8_renew.slots A) (F0 m 103 ls [])) (a0 : Nat) (x1 : Int32) (x2 : Int32) (S : q_S) (H : Heap) (locs : List Loc) (ls : Array Slot), wX8_renew_b187 Q k103 a0 x1 x2 S → q_P D g A s.heap S H locs → q_l ls 5 [(0, .ref a0), (1, .int x1), (2, .int x2)] → W p l e rmX8_renew s m args below meth c H locs 0 0 (MQ below (va_Qi Q (q_B D g A) A) args s rmX8_renew.cells rmX8_renew.slots A) (F0 m 187 ls []) := by
    intro k103 ih103 a0 x1 x2 S H locs ls h hp hl
    unfold wX8_renew_b187 at h
    refine lv_iconst (v := 0) hx hb dX8_renew_187 (by decide) ?_
    exact j188 k103 ih103 a0 x1 x2 (0 : Int32) _ _ _ _ h hp (q_sub hl [0, 1, 2] rfl)
  have j103 : ∀ (n : Nat), ∀ (a0 : Nat) (x1 : Int32) (x2 : Int32) (x3 : Int32) (S : q_S) (H : Heap) (locs : List Loc) (ls : Array Slot), lX8_renew_b103 Q n a0 x1 x2 x3 S → q_P D g A s.heap S H locs → q_l ls 5 [(0, .ref a0), (1, .int x1), (2, .int x2), (3, .int x3)] → W p l e rmX8_renew s m args below meth c H locs 0 0 (MQ below (va_Qi Q (q_B D g A) A) args s rmX8_renew.cells rmX8_renew.slots A) (F0 m 103 ls []) := by
    intro n
    induction n with
    | zero => intro a0 x1 x2 x3 S H locs ls h; exact absurd h (fun h => h)
    | succ n ih103 =>
      intro a0 x1 x2 x3 S H locs ls h hp hl
      have h : wX8_renew_b103 Q (lX8_renew_b103 Q n) a0 x1 x2 x3 S := h
      unfold wX8_renew_b103 at h
      refine lv_iload_n hx hb dX8_renew_103 rfl (q_at hl 3 rfl) ?_
      refine lv_if_eq (tgt := 260) hx hb dX8_renew_104 (by decide) (fun c_13 => ?_) (fun c_13 => ?_)
      · replace h := h.1 c_13
        exact j260 a0 x1 x2 _ _ _ _ h hp (q_sub hl [0, 1, 2] rfl)
      · replace h := h.2 c_13
        refine lv_iload_n hx hb dX8_renew_107 rfl (q_at hl 2 rfl) ?_
        refine lv_aload_n hx hb dX8_renew_108 rfl (q_at hl 0 rfl) ?_
        refine q_rGI C hp h rfl iX8_renew_X8 (by decide) kX8_renew_184 dX8_renew_109 (fun v_14 h => ?_)
        refine lv_icmp_ge (tgt := 260) hx hb dX8_renew_112 (by decide) (fun c_15 => ?_) (fun c_15 => ?_)
        · replace h := h.1 c_15
          exact j260 a0 x1 x2 _ _ _ _ h hp (q_sub hl [0, 1, 2] rfl)
        · replace h := h.2 c_15
          refine lv_iload_n hx hb dX8_renew_115 rfl (q_at hl 2 rfl) ?_
          refine lv_aload_n hx hb dX8_renew_116 rfl (q_at hl 0 rfl) ?_
          refine q_rGI C hp h rfl iX8_renew_X8 (by decide) kX8_renew_175 dX8_renew_117 (fun v_16 h => ?_)
          refine lv_icmp_ge (tgt := 260) hx hb dX8_renew_120 (by decide) (fun c_17 => ?_) (fun c_17 => ?_)
          · replace h := h.1 c_17
            exact j260 a0 x1 x2 _ _ _ _ h hp (q_sub hl [0, 1, 2] rfl)
          · replace h := h.2 c_17
            refine lv_aload_n hx hb dX8_renew_123 rfl (q_at hl 0 rfl) ?_
            refine q_rGR C hp h rfl iX8_renew_X8 (by decide) kX8_renew_93 dX8_renew_124 (fun r_18 h => ?_)
            refine lv_iload_n hx hb dX8_renew_127 rfl (q_at hl 2 rfl) ?_
            refine q_rLI C hp h dX8_renew_128 (fun v_19 h => ?_)
            refine lv_aload_n hx hb dX8_renew_129 rfl (q_at hl 0 rfl) ?_
            refine q_rGR C hp h rfl iX8_renew_X8 (by decide) kX8_renew_81 dX8_renew_130 (fun r_20 h => ?_)
            refine lv_iload_n hx hb dX8_renew_133 rfl (q_at hl 2 rfl) ?_
            refine q_rLI C hp h dX8_renew_134 (fun v_21 h => ?_)
            refine lv_icmp_ne (tgt := 187) hx hb dX8_renew_135 (by decide) (fun c_22 => ?_) (fun c_22 => ?_)
            · replace h := h.1 c_22
              exact j187 (lX8_renew_b103 Q n) ih103 a0 x1 x2 _ _ _ _ h hp (q_sub hl [0, 1, 2] rfl)
            · replace h := h.2 c_22
              refine lv_aload_n hx hb dX8_renew_138 rfl (q_at hl 0 rfl) ?_
              refine q_rGR C hp h rfl iX8_renew_X8 (by decide) kX8_renew_96 dX8_renew_139 (fun r_23 h => ?_)
              refine lv_iload_n hx hb dX8_renew_142 rfl (q_at hl 2 rfl) ?_
              refine q_rLI C hp h dX8_renew_143 (fun v_24 h => ?_)
              refine lv_aload_n hx hb dX8_renew_144 rfl (q_at hl 0 rfl) ?_
              refine q_rGR C hp h rfl iX8_renew_X8 (by decide) kX8_renew_84 dX8_renew_145 (fun r_25 h => ?_)
              refine lv_iload_n hx hb dX8_renew_148 rfl (q_at hl 2 rfl) ?_
              refine q_rLI C hp h dX8_renew_149 (fun v_26 h => ?_)
              refine lv_icmp_ne (tgt := 187) hx hb dX8_renew_150 (by decide) (fun c_27 => ?_) (fun c_27 => ?_)
              · replace h := h.1 c_27
                exact j187 (lX8_renew_b103 Q n) ih103 a0 x1 x2 _ _ _ _ h hp (q_sub hl [0, 1, 2] rfl)
              · replace h := h.2 c_27
                refine lv_aload_n hx hb dX8_renew_153 rfl (q_at hl 0 rfl) ?_
                refine q_rGR C hp h rfl iX8_renew_X8 (by decide) kX8_renew_99 dX8_renew_154 (fun r_28 h => ?_)
                refine lv_iload_n hx hb dX8_renew_157 rfl (q_at hl 2 rfl) ?_
                refine q_rLI C hp h dX8_renew_158 (fun v_29 h => ?_)
                refine lv_aload_n hx hb dX8_renew_159 rfl (q_at hl 0 rfl) ?_
                refine q_rGR C hp h rfl iX8_renew_X8 (by decide) kX8_renew_87 dX8_renew_160 (fun r_30 h => ?_)
                refine lv_iload_n hx hb dX8_renew_163 rfl (q_at hl 2 rfl) ?_
                refine q_rLI C hp h dX8_renew_164 (fun v_31 h => ?_)
                refine lv_icmp_ne (tgt := 187) hx hb dX8_renew_165 (by decide) (fun c_32 => ?_) (fun c_32 => ?_)
                · replace h := h.1 c_32
                  exact j187 (lX8_renew_b103 Q n) ih103 a0 x1 x2 _ _ _ _ h hp (q_sub hl [0, 1, 2] rfl)
                · replace h := h.2 c_32
                  refine lv_aload_n hx hb dX8_renew_168 rfl (q_at hl 0 rfl) ?_
                  refine q_rGR C hp h rfl iX8_renew_X8 (by decide) kX8_renew_102 dX8_renew_169 (fun r_33 h => ?_)
                  refine lv_iload_n hx hb dX8_renew_172 rfl (q_at hl 2 rfl) ?_
                  refine q_rLZ C hp h dX8_renew_173 (fun v_34 h => ?_)
                  refine lv_aload_n hx hb dX8_renew_174 rfl (q_at hl 0 rfl) ?_
                  refine q_rGR C hp h rfl iX8_renew_X8 (by decide) kX8_renew_90 dX8_renew_175 (fun r_35 h => ?_)
                  refine lv_iload_n hx hb dX8_renew_178 rfl (q_at hl 2 rfl) ?_
                  refine q_rLZ C hp h dX8_renew_179 (fun v_36 h => ?_)
                  refine lv_icmp_ne (tgt := 187) hx hb dX8_renew_180 (by decide) (fun c_37 => ?_) (fun c_37 => ?_)
                  · replace h := h.1 c_37
                    exact j187 (lX8_renew_b103 Q n) ih103 a0 x1 x2 _ _ _ _ h hp (q_sub hl [0, 1, 2] rfl)
                  · replace h := h.2 c_37
                    refine lv_iconst (v := 1) hx hb dX8_renew_183 (by decide) ?_
                    refine lv_goto (tgt := 188) hx hb dX8_renew_184 (by decide) ?_
                    exact j188 (lX8_renew_b103 Q n) ih103 a0 x1 x2 (1 : Int32) _ _ _ _ h hp (q_sub hl [0, 1, 2] rfl)
  have j26 : ∀ (n : Nat), ∀ (a0 : Nat) (x1 : Int32) (x2 : Int32) (S : q_S) (H : Heap) (locs : List Loc) (ls : Array Slot), lX8_renew_b26 Q n a0 x1 x2 S → q_P D g A s.heap S H locs → q_l ls 5 [(0, .ref a0), (1, .int x1), (2, .int x2)] → W p l e rmX8_renew s m args below meth c H locs 0 0 (MQ below (va_Qi Q (q_B D g A) A) args s rmX8_renew.cells rmX8_renew.slots A) (F0 m 26 ls []) := by
    intro n
    induction n with
    | zero => intro a0 x1 x2 S H locs ls h; exact absurd h (fun h => h)
    | succ n ih26 =>
      intro a0 x1 x2 S H locs ls h hp hl
      have h : wX8_renew_b26 Q (lX8_renew_b26 Q n) a0 x1 x2 S := h
      unfold wX8_renew_b26 at h
      refine lv_iload_n hx hb dX8_renew_26 rfl (q_at hl 2 rfl) ?_
      refine lv_aload_n hx hb dX8_renew_27 rfl (q_at hl 0 rfl) ?_
      refine q_rGI C hp h rfl iX8_renew_X8 (by decide) kX8_renew_175 dX8_renew_28 (fun v_38 h => ?_)
      refine lv_icmp_ge (tgt := 88) hx hb dX8_renew_31 (by decide) (fun c_39 => ?_) (fun c_39 => ?_)
      · replace h := h.1 c_39
        refine lv_aload_n hx hb dX8_renew_88 rfl (q_at hl 0 rfl) ?_
        refine lv_iload_n hx hb dX8_renew_89 rfl (q_at hl 1 rfl) ?_
        refine q_finV0 C hp (q_runV (As := [.int x1]) (rest := []) C hp (RX8_make l D g _ a0 x1 _ h _) (cwV 1 C.2.2.2.2.1 gX8_renew_X8_make rfl rfl rfl (by decide +kernel) ⟨(Nat.le_of_ble_eq_true rfl), (Nat.le_of_ble_eq_true rfl)⟩) h.1 rfl rfl hl.1.1 rfl (Nat.le_of_ble_eq_true rfl) dX8_renew_90 ⟨(Nat.le_of_ble_eq_true rfl), (Nat.le_of_ble_eq_true rfl)⟩) rfl rfl (fun S_40 H locs h hp => ?_)
        refine lv_aload_n hx hb dX8_renew_93 rfl (q_at hl 0 rfl) ?_
        refine lv_bipush (v := 6) hx hb dX8_renew_94 (by decide) ?_
        refine q_finV0 C hp (q_runV (As := [.int (6 : Int32)]) (rest := []) C hp (RX8_layPages l D g _ a0 (6 : Int32) _ h _) (cwV 1 C.2.2.2.2.1 gX8_renew_X8_layPages rfl rfl rfl (by decide +kernel) ⟨(Nat.le_of_ble_eq_true rfl), (Nat.le_of_ble_eq_true rfl)⟩) h.1 rfl rfl hl.1.1 rfl (Nat.le_of_ble_eq_true rfl) dX8_renew_96 ⟨(Nat.le_of_ble_eq_true rfl), (Nat.le_of_ble_eq_true rfl)⟩) rfl rfl (fun S_41 H locs h hp => ?_)
        refine lv_iconst (v := 0) hx hb dX8_renew_99 (by decide) ?_
        refine q_istn (lv' := [(2, .int (0 : Int32)), (0, .ref a0), (1, .int x1)]) hx hb dX8_renew_100 rfl hl (by decide) rfl (fun ls hl => ?_)
        refine lv_iconst (v := 1) hx hb dX8_renew_101 (by decide) ?_
        refine q_istn (lv' := [(3, .int (1 : Int32)), (2, .int (0 : Int32)), (0, .ref a0), (1, .int x1)]) hx hb dX8_renew_102 rfl hl (by decide) rfl (fun ls hl => ?_)
        exact j103 q_fuel a0 x1 (0 : Int32) (1 : Int32) _ _ _ _ h hp (q_sub hl [2, 3, 1, 0] rfl)
      · replace h := h.2 c_39
        refine lv_aload_n hx hb dX8_renew_34 rfl (q_at hl 0 rfl) ?_
        refine q_rGR C hp h rfl iX8_renew_X8 (by decide) kX8_renew_93 dX8_renew_35 (fun r_42 h => ?_)
        refine lv_iload_n hx hb dX8_renew_38 rfl (q_at hl 2 rfl) ?_
        refine lv_aload_n hx hb dX8_renew_39 rfl (q_at hl 0 rfl) ?_
        refine q_rGR C hp h rfl iX8_renew_X8 (by decide) kX8_renew_81 dX8_renew_40 (fun r_43 h => ?_)
        refine lv_iload_n hx hb dX8_renew_43 rfl (q_at hl 2 rfl) ?_
        refine q_rLI C hp h dX8_renew_44 (fun v_44 h => ?_)
        refine q_rSI C hp h dX8_renew_45 (fun S_45 H locs h hp => ?_)
        refine lv_aload_n hx hb dX8_renew_46 rfl (q_at hl 0 rfl) ?_
        refine q_rGR C hp h rfl iX8_renew_X8 (by decide) kX8_renew_96 dX8_renew_47 (fun r_46 h => ?_)
        refine lv_iload_n hx hb dX8_renew_50 rfl (q_at hl 2 rfl) ?_
        refine lv_aload_n hx hb dX8_renew_51 rfl (q_at hl 0 rfl) ?_
        refine q_rGR C hp h rfl iX8_renew_X8 (by decide) kX8_renew_84 dX8_renew_52 (fun r_47 h => ?_)
        refine lv_iload_n hx hb dX8_renew_55 rfl (q_at hl 2 rfl) ?_
        refine q_rLI C hp h dX8_renew_56 (fun v_48 h => ?_)
        refine q_rSI C hp h dX8_renew_57 (fun S_49 H locs h hp => ?_)
        refine lv_aload_n hx hb dX8_renew_58 rfl (q_at hl 0 rfl) ?_
        refine q_rGR C hp h rfl iX8_renew_X8 (by decide) kX8_renew_99 dX8_renew_59 (fun r_50 h => ?_)
        refine lv_iload_n hx hb dX8_renew_62 rfl (q_at hl 2 rfl) ?_
        refine lv_aload_n hx hb dX8_renew_63 rfl (q_at hl 0 rfl) ?_
        refine q_rGR C hp h rfl iX8_renew_X8 (by decide) kX8_renew_87 dX8_renew_64 (fun r_51 h => ?_)
        refine lv_iload_n hx hb dX8_renew_67 rfl (q_at hl 2 rfl) ?_
        refine q_rLI C hp h dX8_renew_68 (fun v_52 h => ?_)
        refine q_rSI C hp h dX8_renew_69 (fun S_53 H locs h hp => ?_)
        refine lv_aload_n hx hb dX8_renew_70 rfl (q_at hl 0 rfl) ?_
        refine q_rGR C hp h rfl iX8_renew_X8 (by decide) kX8_renew_102 dX8_renew_71 (fun r_54 h => ?_)
        refine lv_iload_n hx hb dX8_renew_74 rfl (q_at hl 2 rfl) ?_
        refine lv_aload_n hx hb dX8_renew_75 rfl (q_at hl 0 rfl) ?_
        refine q_rGR C hp h rfl iX8_renew_X8 (by decide) kX8_renew_90 dX8_renew_76 (fun r_55 h => ?_)
        refine lv_iload_n hx hb dX8_renew_79 rfl (q_at hl 2 rfl) ?_
        refine q_rLZ C hp h dX8_renew_80 (fun v_56 h => ?_)
        refine q_rSZ C hp h dX8_renew_81 (fun S_57 H locs h hp => ?_)
        refine q_inc (x := x2) (v := (x2 + (1 : Int32))) (lv' := [(2, .int (x2 + (1 : Int32))), (0, .ref a0), (1, .int x1)]) hx hb dX8_renew_82 hl (k := 2) rfl rfl (by decide) rfl (fun ls hl => ?_)
        refine lv_goto (tgt := 26) hx hb dX8_renew_85 (by decide) ?_
        exact ih26 a0 x1 (x2 + (1 : Int32)) _ _ _ _ h hp (q_sub hl [1, 2, 0] rfl)
  unfold wX8_renew at h
  replace h := h.2
  refine lv_aload_n hx hb dX8_renew_0 rfl (q_at hl 0 rfl) ?_
  refine lv_iload_n hx hb dX8_renew_1 rfl (q_at hl 1 rfl) ?_
  refine q_finI0 C hp (q_runV (As := [.int x1]) (rest := []) C hp (RX8_isPart l D g _ a0 x1 _ h _) (cwV 1 C.2.2.2.2.1 gX8_renew_X8_isPart rfl rfl rfl (by decide +kernel) ⟨(Nat.le_of_ble_eq_true rfl), (Nat.le_of_ble_eq_true rfl)⟩) h.1 rfl rfl hl.1.1 rfl (Nat.le_of_ble_eq_true rfl) dX8_renew_2 ⟨(Nat.le_of_ble_eq_true rfl), (Nat.le_of_ble_eq_true rfl)⟩) rfl rfl (fun v_59 S_58 H locs h hp => ?_)
  refine lv_if_ne (tgt := 11) hx hb dX8_renew_5 (by decide) (fun c_60 => ?_) (fun c_60 => ?_)
  · replace h := h.1 c_60
    refine lv_aload_n hx hb dX8_renew_11 rfl (q_at hl 0 rfl) ?_
    refine lv_iload_n hx hb dX8_renew_12 rfl (q_at hl 1 rfl) ?_
    refine q_finV0 C hp (q_runV (As := [.int x1]) (rest := []) C hp (RX8_layPages l D g _ a0 x1 _ h _) (cwV 1 C.2.2.2.2.1 gX8_renew_X8_layPages rfl rfl rfl (by decide +kernel) ⟨(Nat.le_of_ble_eq_true rfl), (Nat.le_of_ble_eq_true rfl)⟩) h.1 rfl rfl hl.1.1 rfl (Nat.le_of_ble_eq_true rfl) dX8_renew_13 ⟨(Nat.le_of_ble_eq_true rfl), (Nat.le_of_ble_eq_true rfl)⟩) rfl rfl (fun S_61 H locs h hp => ?_)
    refine lv_aload_n hx hb dX8_renew_16 rfl (q_at hl 0 rfl) ?_
    refine lv_aload_n hx hb dX8_renew_17 rfl (q_at hl 0 rfl) ?_
    refine q_rGI C hp h rfl iX8_renew_X8 (by decide) kX8_renew_175 dX8_renew_18 (fun v_62 h => ?_)
    refine q_rP C hp h tyX8 tyX8_ok nmX8 rfl iX8_renew_X8 (by decide) kX8_renew_184 rfl rfl rfl rfl dX8_renew_21 (fun S_63 H locs h hp => ?_)
    refine lv_iconst (v := 0) hx hb dX8_renew_24 (by decide) ?_
    refine q_istn (lv' := [(2, .int (0 : Int32)), (0, .ref a0), (1, .int x1)]) hx hb dX8_renew_25 rfl hl (by decide) rfl (fun ls hl => ?_)
    exact j26 q_fuel a0 x1 (0 : Int32) _ _ _ _ h hp (q_sub hl [1, 2, 0] rfl)
  · replace h := h.2 c_60
    refine lv_bipush (v := (-101)) hx hb dX8_renew_8 (by decide) ?_
    exact q_iret C hp hr h dX8_renew_10
theorem kX8_lay_42 : Cond.fieldLink RX8 42 (TX8 12).1 (TX8 12).2.1 (TX8 12).2.2.1 ∈ wsX8_lay := by decide +kernel
theorem kX8_lay_72 : Cond.fieldLink RX8 72 (TX8 22).1 (TX8 22).2.1 (TX8 22).2.2.1 ∈ wsX8_lay := by decide +kernel
theorem kX8_lay_75 : Cond.fieldLink RX8 75 (TX8 23).1 (TX8 23).2.1 (TX8 23).2.2.1 ∈ wsX8_lay := by decide +kernel
theorem kX8_lay_105 : Cond.fieldLink RX8 105 (TX8 0).1 (TX8 0).2.1 (TX8 0).2.2.1 ∈ wsX8_lay := by decide +kernel
theorem kX8_lay_175 : Cond.fieldLink RX8 175 (TX8 26).1 (TX8 26).2.1 (TX8 26).2.2.1 ∈ wsX8_lay := by decide +kernel
theorem iX8_lay_X8 : ∀ w ∈ u_ws RX8 TX8 36, w ∈ wsX8_lay := by decide +kernel
set_option maxHeartbeats 4000000 in
set_option maxRecDepth 100000 in
theorem RX8_lay (l : Launch) (D : va_G) (g : q_A) (S : q_S) (a0 : Nat) (x1 : Int32) (x2 : Int32) (Q : Int32 → q_S → Prop) (h : wX8_lay a0 x1 x2 Q S) : q_Mi l yX8_lay wsX8_lay rmX8_lay D g [.ref a0, .int x1, .int x2] S Q := by
  refine q_Mi.of (cc := cX8_lay) (nL := 5) (rt := .int) (by decide +kernel) rfl (Nat.le_of_ble_eq_true rfl) rfl ?_
  intro p e s m args below meth c ls A C hr hnm hp hl
  have C : q_X p s m args meth c cX8_lay 5 RX8 wsX8_lay D g A := C
  have hx := C.1
  have hb := C.2.1
  have hl : q_l ls 5 [(0, .ref a0), (1, .int x1), (2, .int x2)] := hl
  have j71 : ∀ (k39 : Nat → Int32 → Int32 → q_S → Prop) (ih39 : ∀ (a0 : Nat) (x3 : Int32) (x4 : Int32) (S : q_S) (H : Heap) (locs : List Loc) (ls : Array Slot), k39 a0 x3 x4 S → q_P D g A s.heap S H locs → q_l ls 5 [(0, .ref a0), (3, .int x3), (4, .int x4)] → W p l e rmX8_lay s m args below meth c H locs 0 0 (MQ below (va_Qi Q (q_B D g A) A) args s rmX8_lay.cells rmX8_lay.slots A) (F0 m 39 ls [])) (a0 : Nat) (x3 : Int32) (x4 : Int32) (S : q_S) (H : Heap) (locs : List Loc) (ls : Array Slot), wX8_lay_b71 Q k39 a0 x3 x4 S → q_P D g A s.heap S H locs → q_l ls 5 [(0, .ref a0), (3, .int x3), (4, .int x4)] → W p l e rmX8_lay s m args below meth c H locs 0 0 (MQ below (va_Qi Q (q_B D g A) A) args s rmX8_lay.cells rmX8_lay.slots A) (F0 m 71 ls []) := by
    intro k39 ih39 a0 x3 x4 S H locs ls h hp hl
    unfold wX8_lay_b71 at h
    refine q_inc (x := x4) (v := (x4 + (1 : Int32))) (lv' := [(4, .int (x4 + (1 : Int32))), (0, .ref a0), (3, .int x3)]) hx hb dX8_lay_71 hl (k := 2) rfl rfl (by decide) rfl (fun ls hl => ?_)
    refine lv_goto (tgt := 39) hx hb dX8_lay_74 (by decide) ?_
    exact ih39 a0 x3 (x4 + (1 : Int32)) _ _ _ _ h hp (q_sub hl [1, 2, 0] rfl)
  have j39 : ∀ (n : Nat), ∀ (a0 : Nat) (x3 : Int32) (x4 : Int32) (S : q_S) (H : Heap) (locs : List Loc) (ls : Array Slot), lX8_lay_b39 Q n a0 x3 x4 S → q_P D g A s.heap S H locs → q_l ls 5 [(0, .ref a0), (3, .int x3), (4, .int x4)] → W p l e rmX8_lay s m args below meth c H locs 0 0 (MQ below (va_Qi Q (q_B D g A) A) args s rmX8_lay.cells rmX8_lay.slots A) (F0 m 39 ls []) := by
    intro n
    induction n with
    | zero => intro a0 x3 x4 S H locs ls h; exact absurd h (fun h => h)
    | succ n ih39 =>
      intro a0 x3 x4 S H locs ls h hp hl
      have h : wX8_lay_b39 Q (lX8_lay_b39 Q n) a0 x3 x4 S := h
      unfold wX8_lay_b39 at h
      refine lv_iload hx hb dX8_lay_39 (q_at hl 2 rfl) ?_
      refine lv_aload_n hx hb dX8_lay_41 rfl (q_at hl 0 rfl) ?_
      refine q_rGI C hp h rfl iX8_lay_X8 (by decide) kX8_lay_105 dX8_lay_42 (fun v_1 h => ?_)
      refine lv_icmp_ge (tgt := 77) hx hb dX8_lay_45 (by decide) (fun c_2 => ?_) (fun c_2 => ?_)
      · replace h := h.1 c_2
        refine lv_iload_n hx hb dX8_lay_77 rfl (q_at hl 1 rfl) ?_
        exact q_iret C hp hr h dX8_lay_78
      · replace h := h.2 c_2
        refine lv_aload_n hx hb dX8_lay_48 rfl (q_at hl 0 rfl) ?_
        refine q_rGR C hp h rfl iX8_lay_X8 (by decide) kX8_lay_42 dX8_lay_49 (fun r_3 h => ?_)
        refine lv_iload hx hb dX8_lay_52 (q_at hl 2 rfl) ?_
        refine q_rLZ C hp h dX8_lay_54 (fun v_4 h => ?_)
        refine lv_if_eq (tgt := 71) hx hb dX8_lay_55 (by decide) (fun c_5 => ?_) (fun c_5 => ?_)
        · replace h := h.1 c_5
          exact j71 (lX8_lay_b39 Q n) ih39 a0 x3 x4 _ _ _ _ h hp (q_sub hl [0, 1, 2] rfl)
        · replace h := h.2 c_5
          refine lv_aload_n hx hb dX8_lay_58 rfl (q_at hl 0 rfl) ?_
          refine lv_iload hx hb dX8_lay_59 (q_at hl 2 rfl) ?_
          refine q_finV0 C hp (q_runV (As := [.int x4]) (rest := []) C hp (RX8_layPages l D g _ a0 x4 _ h _) (cwV 1 C.2.2.2.2.1 gX8_lay_X8_layPages rfl rfl rfl (by decide +kernel) ⟨(Nat.le_of_ble_eq_true rfl), (Nat.le_of_ble_eq_true rfl)⟩) h.1 rfl rfl hl.1.1 rfl (Nat.le_of_ble_eq_true rfl) dX8_lay_61 ⟨(Nat.le_of_ble_eq_true rfl), (Nat.le_of_ble_eq_true rfl)⟩) rfl rfl (fun S_6 H locs h hp => ?_)
          refine lv_iload_n hx hb dX8_lay_64 rfl (q_at hl 1 rfl) ?_
          refine lv_aload_n hx hb dX8_lay_65 rfl (q_at hl 0 rfl) ?_
          refine q_rGI C hp h rfl iX8_lay_X8 (by decide) kX8_lay_175 dX8_lay_66 (fun v_7 h => ?_)
          refine lv_iadd hx hb dX8_lay_69 ?_
          refine q_istn (lv' := [(3, .int (x3 + v_7)), (0, .ref a0), (4, .int x4)]) hx hb dX8_lay_70 rfl hl (by decide) rfl (fun ls hl => ?_)
          exact j71 (lX8_lay_b39 Q n) ih39 a0 (x3 + v_7) x4 _ _ _ _ h hp (q_sub hl [1, 0, 2] rfl)
  unfold wX8_lay at h
  replace h := h.2
  refine lv_iload_n hx hb dX8_lay_0 rfl (q_at hl 1 rfl) ?_
  refine lv_bipush (v := 8) hx hb dX8_lay_1 (by decide) ?_
  refine lv_bipush (v := 60) hx hb dX8_lay_3 (by decide) ?_
  refine q_finI0 C hp (q_runS (As := [.int x1, .int (8 : Int32), .int (60 : Int32)]) (rest := []) C hp (RX8_in l D g _ x1 (8 : Int32) (60 : Int32) _ h _) (va_cwS 3 C.2.2.2.2.1 gX8_lay_X8_in rfl rfl rfl (by decide +kernel) ⟨(Nat.le_of_ble_eq_true rfl), (Nat.le_of_ble_eq_true rfl)⟩) rfl hl.1.1 rfl (Nat.le_of_ble_eq_true rfl) dX8_lay_5 ⟨(Nat.le_of_ble_eq_true rfl), (Nat.le_of_ble_eq_true rfl)⟩) rfl rfl (fun v_9 S_8 H locs h hp => ?_)
  refine lv_if_eq (tgt := 21) hx hb dX8_lay_8 (by decide) (fun c_10 => ?_) (fun c_10 => ?_)
  · replace h := h.1 c_10
    refine lv_bipush (v := (-102)) hx hb dX8_lay_21 (by decide) ?_
    exact q_iret C hp hr h dX8_lay_23
  · replace h := h.2 c_10
    refine lv_iload_n hx hb dX8_lay_11 rfl (q_at hl 2 rfl) ?_
    refine lv_iconst (v := 1) hx hb dX8_lay_12 (by decide) ?_
    refine lv_bipush (v := 12) hx hb dX8_lay_13 (by decide) ?_
    refine q_finI0 C hp (q_runS (As := [.int x2, .int (1 : Int32), .int (12 : Int32)]) (rest := []) C hp (RX8_in l D g _ x2 (1 : Int32) (12 : Int32) _ h _) (va_cwS 3 C.2.2.2.2.1 gX8_lay_X8_in rfl rfl rfl (by decide +kernel) ⟨(Nat.le_of_ble_eq_true rfl), (Nat.le_of_ble_eq_true rfl)⟩) rfl hl.1.1 rfl (Nat.le_of_ble_eq_true rfl) dX8_lay_15 ⟨(Nat.le_of_ble_eq_true rfl), (Nat.le_of_ble_eq_true rfl)⟩) rfl rfl (fun v_12 S_11 H locs h hp => ?_)
    refine lv_if_ne (tgt := 24) hx hb dX8_lay_18 (by decide) (fun c_13 => ?_) (fun c_13 => ?_)
    · replace h := h.1 c_13
      refine lv_aload_n hx hb dX8_lay_24 rfl (q_at hl 0 rfl) ?_
      refine lv_iload_n hx hb dX8_lay_25 rfl (q_at hl 1 rfl) ?_
      refine q_rP C hp h tyX8 tyX8_ok nmX8 rfl iX8_lay_X8 (by decide) kX8_lay_72 rfl rfl rfl rfl dX8_lay_26 (fun S_14 H locs h hp => ?_)
      refine lv_aload_n hx hb dX8_lay_29 rfl (q_at hl 0 rfl) ?_
      refine lv_iload_n hx hb dX8_lay_30 rfl (q_at hl 2 rfl) ?_
      refine q_rP C hp h tyX8 tyX8_ok nmX8 rfl iX8_lay_X8 (by decide) kX8_lay_75 rfl rfl rfl rfl dX8_lay_31 (fun S_15 H locs h hp => ?_)
      refine lv_iconst (v := 0) hx hb dX8_lay_34 (by decide) ?_
      refine q_istn (lv' := [(3, .int (0 : Int32)), (0, .ref a0), (1, .int x1), (2, .int x2)]) hx hb dX8_lay_35 rfl hl (by decide) rfl (fun ls hl => ?_)
      refine lv_iconst (v := 0) hx hb dX8_lay_36 (by decide) ?_
      refine q_ist (lv' := [(4, .int (0 : Int32)), (3, .int (0 : Int32)), (0, .ref a0), (1, .int x1), (2, .int x2)]) hx hb dX8_lay_37 hl (by decide) rfl (fun ls hl => ?_)
      exact j39 q_fuel a0 (0 : Int32) (0 : Int32) _ _ _ _ h hp (q_sub hl [2, 1, 0] rfl)
    · replace h := h.2 c_13
      refine lv_bipush (v := (-102)) hx hb dX8_lay_21 (by decide) ?_
      exact q_iret C hp hr h dX8_lay_23
theorem kX8_pages_175 : Cond.fieldLink RX8 175 (TX8 26).1 (TX8 26).2.1 (TX8 26).2.2.1 ∈ wsX8_pages := by decide +kernel
theorem iX8_pages_X8 : ∀ w ∈ u_ws RX8 TX8 36, w ∈ wsX8_pages := by decide +kernel
set_option maxHeartbeats 4000000 in
set_option maxRecDepth 100000 in
theorem RX8_pages (l : Launch) (D : va_G) (g : q_A) (S : q_S) (a0 : Nat) (x1 : Int32) (Q : Int32 → q_S → Prop) (h : wX8_pages a0 x1 Q S) : q_Mi l yX8_pages wsX8_pages rmX8_pages D g [.ref a0, .int x1] S Q := by
  refine q_Mi.of (cc := cX8_pages) (nL := 2) (rt := .int) (by decide +kernel) rfl (Nat.le_of_ble_eq_true rfl) rfl ?_
  intro p e s m args below meth c ls A C hr hnm hp hl
  have C : q_X p s m args meth c cX8_pages 2 RX8 wsX8_pages D g A := C
  have hx := C.1
  have hb := C.2.1
  have hl : q_l ls 2 [(0, .ref a0), (1, .int x1)] := hl
  unfold wX8_pages at h
  replace h := h.2
  refine lv_aload_n hx hb dX8_pages_0 rfl (q_at hl 0 rfl) ?_
  refine lv_iload_n hx hb dX8_pages_1 rfl (q_at hl 1 rfl) ?_
  refine q_finI0 C hp (q_runV (As := [.int x1]) (rest := []) C hp (RX8_isPart l D g _ a0 x1 _ h _) (cwV 1 C.2.2.2.2.1 gX8_pages_X8_isPart rfl rfl rfl (by decide +kernel) ⟨(Nat.le_of_ble_eq_true rfl), (Nat.le_of_ble_eq_true rfl)⟩) h.1 rfl rfl hl.1.1 rfl (Nat.le_of_ble_eq_true rfl) dX8_pages_2 ⟨(Nat.le_of_ble_eq_true rfl), (Nat.le_of_ble_eq_true rfl)⟩) rfl rfl (fun v_2 S_1 H locs h hp => ?_)
  refine lv_if_ne (tgt := 11) hx hb dX8_pages_5 (by decide) (fun c_3 => ?_) (fun c_3 => ?_)
  · replace h := h.1 c_3
    refine lv_aload_n hx hb dX8_pages_11 rfl (q_at hl 0 rfl) ?_
    refine lv_iload_n hx hb dX8_pages_12 rfl (q_at hl 1 rfl) ?_
    refine q_finV0 C hp (q_runV (As := [.int x1]) (rest := []) C hp (RX8_layPages l D g _ a0 x1 _ h _) (cwV 1 C.2.2.2.2.1 gX8_pages_X8_layPages rfl rfl rfl (by decide +kernel) ⟨(Nat.le_of_ble_eq_true rfl), (Nat.le_of_ble_eq_true rfl)⟩) h.1 rfl rfl hl.1.1 rfl (Nat.le_of_ble_eq_true rfl) dX8_pages_13 ⟨(Nat.le_of_ble_eq_true rfl), (Nat.le_of_ble_eq_true rfl)⟩) rfl rfl (fun S_4 H locs h hp => ?_)
    refine lv_aload_n hx hb dX8_pages_16 rfl (q_at hl 0 rfl) ?_
    refine q_rGI C hp h rfl iX8_pages_X8 (by decide) kX8_pages_175 dX8_pages_17 (fun v_5 h => ?_)
    exact q_iret C hp hr h dX8_pages_20
  · replace h := h.2 c_3
    refine lv_bipush (v := (-101)) hx hb dX8_pages_8 (by decide) ?_
    exact q_iret C hp hr h dX8_pages_10
theorem kX8_lastNumber_42 : Cond.fieldLink RX8 42 (TX8 12).1 (TX8 12).2.1 (TX8 12).2.2.1 ∈ wsX8_lastNumber := by decide +kernel
theorem kX8_lastNumber_175 : Cond.fieldLink RX8 175 (TX8 26).1 (TX8 26).2.1 (TX8 26).2.2.1 ∈ wsX8_lastNumber := by decide +kernel
theorem iX8_lastNumber_X8 : ∀ w ∈ u_ws RX8 TX8 36, w ∈ wsX8_lastNumber := by decide +kernel
set_option maxHeartbeats 4000000 in
set_option maxRecDepth 100000 in
theorem RX8_lastNumber (l : Launch) (D : va_G) (g : q_A) (S : q_S) (a0 : Nat) (x1 : Int32) (Q : Int32 → q_S → Prop) (h : wX8_lastNumber a0 x1 Q S) : q_Mi l yX8_lastNumber wsX8_lastNumber rmX8_lastNumber D g [.ref a0, .int x1] S Q := by
  refine q_Mi.of (cc := cX8_lastNumber) (nL := 4) (rt := .int) (by decide +kernel) rfl (Nat.le_of_ble_eq_true rfl) rfl ?_
  intro p e s m args below meth c ls A C hr hnm hp hl
  have C : q_X p s m args meth c cX8_lastNumber 4 RX8 wsX8_lastNumber D g A := C
  have hx := C.1
  have hb := C.2.1
  have hl : q_l ls 4 [(0, .ref a0), (1, .int x1)] := hl
  have j48 : ∀ (k4 : Nat → Int32 → Int32 → Int32 → q_S → Prop) (ih4 : ∀ (a0 : Nat) (x1 : Int32) (x2 : Int32) (x3 : Int32) (S : q_S) (H : Heap) (locs : List Loc) (ls : Array Slot), k4 a0 x1 x2 x3 S → q_P D g A s.heap S H locs → q_l ls 4 [(0, .ref a0), (1, .int x1), (2, .int x2), (3, .int x3)] → W p l e rmX8_lastNumber s m args below meth c H locs 0 0 (MQ below (va_Qi Q (q_B D g A) A) args s rmX8_lastNumber.cells rmX8_lastNumber.slots A) (F0 m 4 ls [])) (a0 : Nat) (x1 : Int32) (x2 : Int32) (x3 : Int32) (S : q_S) (H : Heap) (locs : List Loc) (ls : Array Slot), wX8_lastNumber_b48 Q k4 a0 x1 x2 x3 S → q_P D g A s.heap S H locs → q_l ls 4 [(0, .ref a0), (1, .int x1), (2, .int x2), (3, .int x3)] → W p l e rmX8_lastNumber s m args below meth c H locs 0 0 (MQ below (va_Qi Q (q_B D g A) A) args s rmX8_lastNumber.cells rmX8_lastNumber.slots A) (F0 m 48 ls []) := by
    intro k4 ih4 a0 x1 x2 x3 S H locs ls h hp hl
    unfold wX8_lastNumber_b48 at h
    refine q_inc (x := x3) (v := (x3 + (1 : Int32))) (lv' := [(3, .int (x3 + (1 : Int32))), (0, .ref a0), (1, .int x1), (2, .int x2)]) hx hb dX8_lastNumber_48 hl (k := 3) rfl rfl (by decide) rfl (fun ls hl => ?_)
    refine lv_goto (tgt := 4) hx hb dX8_lastNumber_51 (by decide) ?_
    exact ih4 a0 x1 x2 (x3 + (1 : Int32)) _ _ _ _ h hp (q_sub hl [1, 2, 3, 0] rfl)
  have j47 : ∀ (k4 : Nat → Int32 → Int32 → Int32 → q_S → Prop) (ih4 : ∀ (a0 : Nat) (x1 : Int32) (x2 : Int32) (x3 : Int32) (S : q_S) (H : Heap) (locs : List Loc) (ls : Array Slot), k4 a0 x1 x2 x3 S → q_P D g A s.heap S H locs → q_l ls 4 [(0, .ref a0), (1, .int x1), (2, .int x2), (3, .int x3)] → W p l e rmX8_lastNumber s m args below meth c H locs 0 0 (MQ below (va_Qi Q (q_B D g A) A) args s rmX8_lastNumber.cells rmX8_lastNumber.slots A) (F0 m 4 ls [])) (a0 : Nat) (x1 : Int32) (x3 : Int32) (y0 : Int32) (S : q_S) (H : Heap) (locs : List Loc) (ls : Array Slot), wX8_lastNumber_b47 Q k4 a0 x1 x3 y0 S → q_P D g A s.heap S H locs → q_l ls 4 [(0, .ref a0), (1, .int x1), (3, .int x3)] → W p l e rmX8_lastNumber s m args below meth c H locs 0 0 (MQ below (va_Qi Q (q_B D g A) A) args s rmX8_lastNumber.cells rmX8_lastNumber.slots A) (F0 m 47 ls [.int y0]) := by
    intro k4 ih4 a0 x1 x3 y0 S H locs ls h hp hl
    unfold wX8_lastNumber_b47 at h
    refine q_istn (lv' := [(2, .int y0), (0, .ref a0), (1, .int x1), (3, .int x3)]) hx hb dX8_lastNumber_47 rfl hl (by decide) rfl (fun ls hl => ?_)
    exact j48 k4 ih4 a0 x1 y0 x3 _ _ _ _ h hp (q_sub hl [1, 2, 0, 3] rfl)
  have j4 : ∀ (n : Nat), ∀ (a0 : Nat) (x1 : Int32) (x2 : Int32) (x3 : Int32) (S : q_S) (H : Heap) (locs : List Loc) (ls : Array Slot), lX8_lastNumber_b4 Q n a0 x1 x2 x3 S → q_P D g A s.heap S H locs → q_l ls 4 [(0, .ref a0), (1, .int x1), (2, .int x2), (3, .int x3)] → W p l e rmX8_lastNumber s m args below meth c H locs 0 0 (MQ below (va_Qi Q (q_B D g A) A) args s rmX8_lastNumber.cells rmX8_lastNumber.slots A) (F0 m 4 ls []) := by
    intro n
    induction n with
    | zero => intro a0 x1 x2 x3 S H locs ls h; exact absurd h (fun h => h)
    | succ n ih4 =>
      intro a0 x1 x2 x3 S H locs ls h hp hl
      have h : wX8_lastNumber_b4 Q (lX8_lastNumber_b4 Q n) a0 x1 x2 x3 S := h
      unfold wX8_lastNumber_b4 at h
      refine lv_iload_n hx hb dX8_lastNumber_4 rfl (q_at hl 3 rfl) ?_
      refine lv_iload_n hx hb dX8_lastNumber_5 rfl (q_at hl 1 rfl) ?_
      refine lv_icmp_ge (tgt := 54) hx hb dX8_lastNumber_6 (by decide) (fun c_1 => ?_) (fun c_1 => ?_)
      · replace h := h.1 c_1
        refine lv_iload_n hx hb dX8_lastNumber_54 rfl (q_at hl 2 rfl) ?_
        exact q_iret C hp hr h dX8_lastNumber_55
      · replace h := h.2 c_1
        refine lv_aload_n hx hb dX8_lastNumber_9 rfl (q_at hl 0 rfl) ?_
        refine q_rGR C hp h rfl iX8_lastNumber_X8 (by decide) kX8_lastNumber_42 dX8_lastNumber_10 (fun r_2 h => ?_)
        refine lv_iload_n hx hb dX8_lastNumber_13 rfl (q_at hl 3 rfl) ?_
        refine q_rLZ C hp h dX8_lastNumber_14 (fun v_3 h => ?_)
        refine lv_if_eq (tgt := 48) hx hb dX8_lastNumber_15 (by decide) (fun c_4 => ?_) (fun c_4 => ?_)
        · replace h := h.1 c_4
          exact j48 (lX8_lastNumber_b4 Q n) ih4 a0 x1 x2 x3 _ _ _ _ h hp (q_sub hl [0, 1, 2, 3] rfl)
        · replace h := h.2 c_4
          refine lv_aload_n hx hb dX8_lastNumber_18 rfl (q_at hl 0 rfl) ?_
          refine lv_iload_n hx hb dX8_lastNumber_19 rfl (q_at hl 3 rfl) ?_
          refine q_finV0 C hp (q_runV (As := [.int x3]) (rest := []) C hp (RX8_layPages l D g _ a0 x3 _ h _) (cwV 1 C.2.2.2.2.1 gX8_lastNumber_X8_layPages rfl rfl rfl (by decide +kernel) ⟨(Nat.le_of_ble_eq_true rfl), (Nat.le_of_ble_eq_true rfl)⟩) h.1 rfl rfl hl.1.1 rfl (Nat.le_of_ble_eq_true rfl) dX8_lastNumber_20 ⟨(Nat.le_of_ble_eq_true rfl), (Nat.le_of_ble_eq_true rfl)⟩) rfl rfl (fun S_5 H locs h hp => ?_)
          refine lv_aload_n hx hb dX8_lastNumber_23 rfl (q_at hl 0 rfl) ?_
          refine q_rGI C hp h rfl iX8_lastNumber_X8 (by decide) kX8_lastNumber_175 dX8_lastNumber_24 (fun v_6 h => ?_)
          refine lv_if_le (tgt := 46) hx hb dX8_lastNumber_27 (by decide) (fun c_7 => ?_) (fun c_7 => ?_)
          · replace h := h.1 c_7
            refine lv_iload_n hx hb dX8_lastNumber_46 rfl (q_at hl 2 rfl) ?_
            exact j47 (lX8_lastNumber_b4 Q n) ih4 a0 x1 x3 x2 _ _ _ _ h hp (q_sub hl [0, 1, 3] rfl)
          · replace h := h.2 c_7
            refine lv_iload_n hx hb dX8_lastNumber_30 rfl (q_at hl 2 rfl) ?_
            refine lv_iconst (v := 1) hx hb dX8_lastNumber_31 (by decide) ?_
            refine lv_iadd hx hb dX8_lastNumber_32 ?_
            refine q_finI0 C hp (q_runS (As := [.int (x2 + (1 : Int32))]) (rest := []) C hp (RX8_odd l D g _ (x2 + (1 : Int32)) _ h _) (va_cwS 1 C.2.2.2.2.1 gX8_lastNumber_X8_odd rfl rfl rfl (by decide +kernel) ⟨(Nat.le_of_ble_eq_true rfl), (Nat.le_of_ble_eq_true rfl)⟩) rfl hl.1.1 rfl (Nat.le_of_ble_eq_true rfl) dX8_lastNumber_33 ⟨(Nat.le_of_ble_eq_true rfl), (Nat.le_of_ble_eq_true rfl)⟩) rfl rfl (fun v_9 S_8 H locs h hp => ?_)
            refine lv_aload_n hx hb dX8_lastNumber_36 rfl (q_at hl 0 rfl) ?_
            refine q_rGI C hp h rfl iX8_lastNumber_X8 (by decide) kX8_lastNumber_175 dX8_lastNumber_37 (fun v_10 h => ?_)
            refine lv_iadd hx hb dX8_lastNumber_40 ?_
            refine lv_iconst (v := 1) hx hb dX8_lastNumber_41 (by decide) ?_
            refine lv_isub hx hb dX8_lastNumber_42 ?_
            refine lv_goto (tgt := 47) hx hb dX8_lastNumber_43 (by decide) ?_
            exact j47 (lX8_lastNumber_b4 Q n) ih4 a0 x1 x3 ((v_9 + v_10) - (1 : Int32)) _ _ _ _ h hp (q_sub hl [0, 1, 3] rfl)
  unfold wX8_lastNumber at h
  replace h := h.2
  refine lv_iconst (v := 0) hx hb dX8_lastNumber_0 (by decide) ?_
  refine q_istn (lv' := [(2, .int (0 : Int32)), (0, .ref a0), (1, .int x1)]) hx hb dX8_lastNumber_1 rfl hl (by decide) rfl (fun ls hl => ?_)
  refine lv_iconst (v := 0) hx hb dX8_lastNumber_2 (by decide) ?_
  refine q_istn (lv' := [(3, .int (0 : Int32)), (2, .int (0 : Int32)), (0, .ref a0), (1, .int x1)]) hx hb dX8_lastNumber_3 rfl hl (by decide) rfl (fun ls hl => ?_)
  exact j4 q_fuel a0 x1 (0 : Int32) (0 : Int32) _ _ _ _ h hp (q_sub hl [2, 3, 1, 0] rfl)
theorem kX8_page_81 : Cond.fieldLink RX8 81 (TX8 27).1 (TX8 27).2.1 (TX8 27).2.2.1 ∈ wsX8_page := by decide +kernel
theorem kX8_page_84 : Cond.fieldLink RX8 84 (TX8 28).1 (TX8 28).2.1 (TX8 28).2.2.1 ∈ wsX8_page := by decide +kernel
theorem kX8_page_87 : Cond.fieldLink RX8 87 (TX8 29).1 (TX8 29).2.1 (TX8 29).2.2.1 ∈ wsX8_page := by decide +kernel
theorem kX8_page_90 : Cond.fieldLink RX8 90 (TX8 30).1 (TX8 30).2.1 (TX8 30).2.2.1 ∈ wsX8_page := by decide +kernel
theorem kX8_page_175 : Cond.fieldLink RX8 175 (TX8 26).1 (TX8 26).2.1 (TX8 26).2.2.1 ∈ wsX8_page := by decide +kernel
theorem iX8_page_X8 : ∀ w ∈ u_ws RX8 TX8 36, w ∈ wsX8_page := by decide +kernel
set_option maxHeartbeats 4000000 in
set_option maxRecDepth 100000 in
theorem RX8_page (l : Launch) (D : va_G) (g : q_A) (S : q_S) (a0 : Nat) (x1 : Int32) (x2 : Int32) (x3 : Int32) (Q : Int32 → q_S → Prop) (h : wX8_page a0 x1 x2 x3 Q S) : q_Mi l yX8_page wsX8_page rmX8_page D g [.ref a0, .int x1, .int x2, .int x3] S Q := by
  refine q_Mi.of (cc := cX8_page) (nL := 5) (rt := .int) (by decide +kernel) rfl (Nat.le_of_ble_eq_true rfl) rfl ?_
  intro p e s m args below meth c ls A C hr hnm hp hl
  have C : q_X p s m args meth c cX8_page 5 RX8 wsX8_page D g A := C
  have hx := C.1
  have hb := C.2.1
  have hl : q_l ls 5 [(0, .ref a0), (1, .int x1), (2, .int x2), (3, .int x3)] := hl
  unfold wX8_page at h
  replace h := h.2
  refine lv_aload_n hx hb dX8_page_0 rfl (q_at hl 0 rfl) ?_
  refine lv_iload_n hx hb dX8_page_1 rfl (q_at hl 1 rfl) ?_
  refine q_finI0 C hp (q_runV (As := [.int x1]) (rest := []) C hp (RX8_isPart l D g _ a0 x1 _ h _) (cwV 1 C.2.2.2.2.1 gX8_page_X8_isPart rfl rfl rfl (by decide +kernel) ⟨(Nat.le_of_ble_eq_true rfl), (Nat.le_of_ble_eq_true rfl)⟩) h.1 rfl rfl hl.1.1 rfl (Nat.le_of_ble_eq_true rfl) dX8_page_2 ⟨(Nat.le_of_ble_eq_true rfl), (Nat.le_of_ble_eq_true rfl)⟩) rfl rfl (fun v_2 S_1 H locs h hp => ?_)
  refine lv_if_ne (tgt := 11) hx hb dX8_page_5 (by decide) (fun c_3 => ?_) (fun c_3 => ?_)
  · replace h := h.1 c_3
    refine lv_aload_n hx hb dX8_page_11 rfl (q_at hl 0 rfl) ?_
    refine lv_iload_n hx hb dX8_page_12 rfl (q_at hl 1 rfl) ?_
    refine q_finI0 C hp (q_runV (As := [.int x1]) (rest := []) C hp (RX8_lastNumber l D g _ a0 x1 _ h _) (cwV 1 C.2.2.2.2.1 gX8_page_X8_lastNumber rfl rfl rfl (by decide +kernel) ⟨(Nat.le_of_ble_eq_true rfl), (Nat.le_of_ble_eq_true rfl)⟩) h.1 rfl rfl hl.1.1 rfl (Nat.le_of_ble_eq_true rfl) dX8_page_13 ⟨(Nat.le_of_ble_eq_true rfl), (Nat.le_of_ble_eq_true rfl)⟩) rfl rfl (fun v_5 S_4 H locs h hp => ?_)
    refine lv_iconst (v := 1) hx hb dX8_page_16 (by decide) ?_
    refine lv_iadd hx hb dX8_page_17 ?_
    refine q_finI0 C hp (q_runS (As := [.int (v_5 + (1 : Int32))]) (rest := []) C hp (RX8_odd l D g _ (v_5 + (1 : Int32)) _ h _) (va_cwS 1 C.2.2.2.2.1 gX8_page_X8_odd rfl rfl rfl (by decide +kernel) ⟨(Nat.le_of_ble_eq_true rfl), (Nat.le_of_ble_eq_true rfl)⟩) rfl hl.1.1 rfl (Nat.le_of_ble_eq_true rfl) dX8_page_18 ⟨(Nat.le_of_ble_eq_true rfl), (Nat.le_of_ble_eq_true rfl)⟩) rfl rfl (fun v_7 S_6 H locs h hp => ?_)
    refine q_ist (lv' := [(4, .int v_7), (0, .ref a0), (1, .int x1), (2, .int x2), (3, .int x3)]) hx hb dX8_page_21 hl (by decide) rfl (fun ls hl => ?_)
    refine lv_aload_n hx hb dX8_page_23 rfl (q_at hl 1 rfl) ?_
    refine lv_iload_n hx hb dX8_page_24 rfl (q_at hl 2 rfl) ?_
    refine q_finV0 C hp (q_runV (As := [.int x1]) (rest := []) C hp (RX8_layPages l D g _ a0 x1 _ h _) (cwV 1 C.2.2.2.2.1 gX8_page_X8_layPages rfl rfl rfl (by decide +kernel) ⟨(Nat.le_of_ble_eq_true rfl), (Nat.le_of_ble_eq_true rfl)⟩) h.1 rfl rfl hl.1.1 rfl (Nat.le_of_ble_eq_true rfl) dX8_page_25 ⟨(Nat.le_of_ble_eq_true rfl), (Nat.le_of_ble_eq_true rfl)⟩) rfl rfl (fun S_8 H locs h hp => ?_)
    refine lv_iload_n hx hb dX8_page_28 rfl (q_at hl 3 rfl) ?_
    refine lv_iconst (v := 0) hx hb dX8_page_29 (by decide) ?_
    refine lv_aload_n hx hb dX8_page_30 rfl (q_at hl 1 rfl) ?_
    refine q_rGI C hp h rfl iX8_page_X8 (by decide) kX8_page_175 dX8_page_31 (fun v_9 h => ?_)
    refine lv_iconst (v := 1) hx hb dX8_page_34 (by decide) ?_
    refine lv_isub hx hb dX8_page_35 ?_
    refine q_finI0 C hp (q_runS (As := [.int x2, .int (0 : Int32), .int (v_9 - (1 : Int32))]) (rest := []) C hp (RX8_in l D g _ x2 (0 : Int32) (v_9 - (1 : Int32)) _ h _) (va_cwS 3 C.2.2.2.2.1 gX8_page_X8_in rfl rfl rfl (by decide +kernel) ⟨(Nat.le_of_ble_eq_true rfl), (Nat.le_of_ble_eq_true rfl)⟩) rfl hl.1.1 rfl (Nat.le_of_ble_eq_true rfl) dX8_page_36 ⟨(Nat.le_of_ble_eq_true rfl), (Nat.le_of_ble_eq_true rfl)⟩) rfl rfl (fun v_11 S_10 H locs h hp => ?_)
    refine lv_if_ne (tgt := 45) hx hb dX8_page_39 (by decide) (fun c_12 => ?_) (fun c_12 => ?_)
    · replace h := h.1 c_12
      refine lv_iload_n hx hb dX8_page_45 rfl (q_at hl 4 rfl) ?_
      by_cases hout : (x3).toInt < 0 ∨ 4 < (x3).toInt
      · replace h := h.1 hout
        refine lv_tableOut (tgt := 121) hx hb dX8_page_46 hout (by decide) ?_
        refine lv_bipush (v := (-102)) hx hb dX8_page_121 (by decide) ?_
        exact q_iret C hp hr h dX8_page_123
      · have hc : (x3).toInt = 0 ∨ (x3).toInt = 1 ∨ (x3).toInt = 2 ∨ (x3).toInt = 3 ∨ (x3).toInt = 4 := by omega
        rcases hc with hc | hc | hc | hc | hc
        · replace h := h.2.1 hc
          refine lv_tableIn (off := 34) (tgt := 80) hx hb dX8_page_46 (by omega) (by omega) (by rw [hc]; rfl) (by decide) ?_
          refine lv_aload_n hx hb dX8_page_80 rfl (q_at hl 1 rfl) ?_
          refine q_rGR C hp h rfl iX8_page_X8 (by decide) kX8_page_81 dX8_page_81 (fun r_13 h => ?_)
          refine lv_iload_n hx hb dX8_page_84 rfl (q_at hl 3 rfl) ?_
          refine q_rLI C hp h dX8_page_85 (fun v_14 h => ?_)
          exact q_iret C hp hr h dX8_page_86
        · replace h := h.2.2.1 hc
          refine lv_tableIn (off := 41) (tgt := 87) hx hb dX8_page_46 (by omega) (by omega) (by rw [hc]; rfl) (by decide) ?_
          refine lv_aload_n hx hb dX8_page_87 rfl (q_at hl 1 rfl) ?_
          refine q_rGR C hp h rfl iX8_page_X8 (by decide) kX8_page_84 dX8_page_88 (fun r_15 h => ?_)
          refine lv_iload_n hx hb dX8_page_91 rfl (q_at hl 3 rfl) ?_
          refine q_rLI C hp h dX8_page_92 (fun v_16 h => ?_)
          exact q_iret C hp hr h dX8_page_93
        · replace h := h.2.2.2.1 hc
          refine lv_tableIn (off := 48) (tgt := 94) hx hb dX8_page_46 (by omega) (by omega) (by rw [hc]; rfl) (by decide) ?_
          refine lv_aload_n hx hb dX8_page_94 rfl (q_at hl 1 rfl) ?_
          refine q_rGR C hp h rfl iX8_page_X8 (by decide) kX8_page_87 dX8_page_95 (fun r_17 h => ?_)
          refine lv_iload_n hx hb dX8_page_98 rfl (q_at hl 3 rfl) ?_
          refine q_rLI C hp h dX8_page_99 (fun v_18 h => ?_)
          exact q_iret C hp hr h dX8_page_100
        · replace h := h.2.2.2.2.1 hc
          refine lv_tableIn (off := 55) (tgt := 101) hx hb dX8_page_46 (by omega) (by omega) (by rw [hc]; rfl) (by decide) ?_
          refine lv_aload_n hx hb dX8_page_101 rfl (q_at hl 1 rfl) ?_
          refine q_rGR C hp h rfl iX8_page_X8 (by decide) kX8_page_90 dX8_page_102 (fun r_19 h => ?_)
          refine lv_iload_n hx hb dX8_page_105 rfl (q_at hl 3 rfl) ?_
          refine q_rLZ C hp h dX8_page_106 (fun v_20 h => ?_)
          refine lv_if_eq (tgt := 114) hx hb dX8_page_107 (by decide) (fun c_21 => ?_) (fun c_21 => ?_)
          · replace h := h.1 c_21
            refine lv_iconst (v := 0) hx hb dX8_page_114 (by decide) ?_
            exact q_iret C hp hr h dX8_page_115
          · replace h := h.2 c_21
            refine lv_iconst (v := 1) hx hb dX8_page_110 (by decide) ?_
            refine lv_goto (tgt := 115) hx hb dX8_page_111 (by decide) ?_
            exact q_iret C hp hr h dX8_page_115
        · replace h := h.2.2.2.2.2 hc
          refine lv_tableIn (off := 70) (tgt := 116) hx hb dX8_page_46 (by omega) (by omega) (by rw [hc]; rfl) (by decide) ?_
          refine lv_iload hx hb dX8_page_116 (q_at hl 0 rfl) ?_
          refine lv_iload_n hx hb dX8_page_118 rfl (q_at hl 3 rfl) ?_
          refine lv_iadd hx hb dX8_page_119 ?_
          exact q_iret C hp hr h dX8_page_120
    · replace h := h.2 c_12
      refine lv_bipush (v := (-101)) hx hb dX8_page_42 (by decide) ?_
      exact q_iret C hp hr h dX8_page_44
  · replace h := h.2 c_3
    refine lv_bipush (v := (-101)) hx hb dX8_page_8 (by decide) ?_
    exact q_iret C hp hr h dX8_page_10
theorem kX8_areIn_7 : Cond.fieldLink RX8 7 (TX8 2).1 (TX8 2).2.1 (TX8 2).2.2.1 ∈ wsX8_areIn := by decide +kernel
theorem kX8_areIn_13 : Cond.fieldLink RX8 13 (TX8 3).1 (TX8 3).2.1 (TX8 3).2.2.1 ∈ wsX8_areIn := by decide +kernel
theorem kX8_areIn_16 : Cond.fieldLink RX8 16 (TX8 4).1 (TX8 4).2.1 (TX8 4).2.2.1 ∈ wsX8_areIn := by decide +kernel
theorem kX8_areIn_19 : Cond.fieldLink RX8 19 (TX8 5).1 (TX8 5).2.1 (TX8 5).2.2.1 ∈ wsX8_areIn := by decide +kernel
theorem kX8_areIn_22 : Cond.fieldLink RX8 22 (TX8 6).1 (TX8 6).2.1 (TX8 6).2.2.1 ∈ wsX8_areIn := by decide +kernel
theorem iX8_areIn_X8 : ∀ w ∈ u_ws RX8 TX8 36, w ∈ wsX8_areIn := by decide +kernel
set_option maxHeartbeats 4000000 in
set_option maxRecDepth 100000 in
theorem RX8_areIn (l : Launch) (D : va_G) (g : q_A) (S : q_S) (a0 : Nat) (x1 : Int32) (x2 : Int32) (x3 : Int32) (Q : Int32 → q_S → Prop) (h : wX8_areIn a0 x1 x2 x3 Q S) : q_Mi l yX8_areIn wsX8_areIn rmX8_areIn D g [.ref a0, .int x1, .int x2, .int x3] S Q := by
  refine q_Mi.of (cc := cX8_areIn) (nL := 9) (rt := .boolean) (by decide +kernel) rfl (Nat.le_of_ble_eq_true rfl) rfl ?_
  intro p e s m args below meth c ls A C hr hnm hp hl
  have C : q_X p s m args meth c cX8_areIn 9 RX8 wsX8_areIn D g A := C
  have hx := C.1
  have hb := C.2.1
  have hl : q_l ls 9 [(0, .ref a0), (1, .int x1), (2, .int x2), (3, .int x3)] := hl
  have j191 : ∀ (k6 : Nat → Int32 → Int32 → Int32 → Int32 → Int32 → q_S → Prop) (ih6 : ∀ (a0 : Nat) (x1 : Int32) (x2 : Int32) (x3 : Int32) (x4 : Int32) (x5 : Int32) (S : q_S) (H : Heap) (locs : List Loc) (ls : Array Slot), k6 a0 x1 x2 x3 x4 x5 S → q_P D g A s.heap S H locs → q_l ls 9 [(0, .ref a0), (1, .int x1), (2, .int x2), (3, .int x3), (4, .int x4), (5, .int x5)] → W p l e rmX8_areIn s m args below meth c H locs 0 0 (MQ below (va_Qi Q (q_B D g A) A) args s rmX8_areIn.cells rmX8_areIn.slots A) (F0 m 6 ls [])) (a0 : Nat) (x1 : Int32) (x2 : Int32) (x3 : Int32) (x5 : Int32) (y0 : Int32) (S : q_S) (H : Heap) (locs : List Loc) (ls : Array Slot), wX8_areIn_b191 Q k6 a0 x1 x2 x3 x5 y0 S → q_P D g A s.heap S H locs → q_l ls 9 [(0, .ref a0), (1, .int x1), (2, .int x2), (3, .int x3), (5, .int x5)] → W p l e rmX8_areIn s m args below meth c H locs 0 0 (MQ below (va_Qi Q (q_B D g A) A) args s rmX8_areIn.cells rmX8_areIn.slots A) (F0 m 191 ls [.int y0]) := by
    intro k6 ih6 a0 x1 x2 x3 x5 y0 S H locs ls h hp hl
    unfold wX8_areIn_b191 at h
    refine q_ist (lv' := [(4, .int y0), (0, .ref a0), (1, .int x1), (2, .int x2), (3, .int x3), (5, .int x5)]) hx hb dX8_areIn_191 hl (by decide) rfl (fun ls hl => ?_)
    refine q_inc (x := x5) (v := (x5 + (1 : Int32))) (lv' := [(5, .int (x5 + (1 : Int32))), (4, .int y0), (0, .ref a0), (1, .int x1), (2, .int x2), (3, .int x3)]) hx hb dX8_areIn_193 hl (k := 5) rfl rfl (by decide) rfl (fun ls hl => ?_)
    refine lv_goto (tgt := 6) hx hb dX8_areIn_196 (by decide) ?_
    exact ih6 a0 x1 x2 x3 y0 (x5 + (1 : Int32)) _ _ _ _ h hp (q_sub hl [2, 3, 4, 5, 1, 0] rfl)
  have j190 : ∀ (k6 : Nat → Int32 → Int32 → Int32 → Int32 → Int32 → q_S → Prop) (ih6 : ∀ (a0 : Nat) (x1 : Int32) (x2 : Int32) (x3 : Int32) (x4 : Int32) (x5 : Int32) (S : q_S) (H : Heap) (locs : List Loc) (ls : Array Slot), k6 a0 x1 x2 x3 x4 x5 S → q_P D g A s.heap S H locs → q_l ls 9 [(0, .ref a0), (1, .int x1), (2, .int x2), (3, .int x3), (4, .int x4), (5, .int x5)] → W p l e rmX8_areIn s m args below meth c H locs 0 0 (MQ below (va_Qi Q (q_B D g A) A) args s rmX8_areIn.cells rmX8_areIn.slots A) (F0 m 6 ls [])) (a0 : Nat) (x1 : Int32) (x2 : Int32) (x3 : Int32) (x5 : Int32) (S : q_S) (H : Heap) (locs : List Loc) (ls : Array Slot), wX8_areIn_b190 Q k6 a0 x1 x2 x3 x5 S → q_P D g A s.heap S H locs → q_l ls 9 [(0, .ref a0), (1, .int x1), (2, .int x2), (3, .int x3), (5, .int x5)] → W p l e rmX8_areIn s m args below meth c H locs 0 0 (MQ below (va_Qi Q (q_B D g A) A) args s rmX8_areIn.cells rmX8_areIn.slots A) (F0 m 190 ls []) := by
    intro k6 ih6 a0 x1 x2 x3 x5 S H locs ls h hp hl
    unfold wX8_areIn_b190 at h
    refine lv_iconst (v := 0) hx hb dX8_areIn_190 (by decide) ?_
    exact j191 k6 ih6 a0 x1 x2 x3 x5 (0 : Int32) _ _ _ _ h hp (q_sub hl [0, 1, 2, 3, 4] rfl)
  have j168 : ∀ (k23 : Nat → Int32 → Int32 → Int32 → Int32 → Int32 → Int32 → Int32 → q_S → Prop) (ih23 : ∀ (a0 : Nat) (x1 : Int32) (x2 : Int32) (x3 : Int32) (x4 : Int32) (x5 : Int32) (x6 : Int32) (x7 : Int32) (S : q_S) (H : Heap) (locs : List Loc) (ls : Array Slot), k23 a0 x1 x2 x3 x4 x5 x6 x7 S → q_P D g A s.heap S H locs → q_l ls 9 [(0, .ref a0), (1, .int x1), (2, .int x2), (3, .int x3), (4, .int x4), (5, .int x5), (6, .int x6), (7, .int x7)] → W p l e rmX8_areIn s m args below meth c H locs 0 0 (MQ below (va_Qi Q (q_B D g A) A) args s rmX8_areIn.cells rmX8_areIn.slots A) (F0 m 23 ls [])) (a0 : Nat) (x1 : Int32) (x2 : Int32) (x3 : Int32) (x4 : Int32) (x5 : Int32) (x7 : Int32) (y0 : Int32) (S : q_S) (H : Heap) (locs : List Loc) (ls : Array Slot), wX8_areIn_b168 Q k23 a0 x1 x2 x3 x4 x5 x7 y0 S → q_P D g A s.heap S H locs → q_l ls 9 [(0, .ref a0), (1, .int x1), (2, .int x2), (3, .int x3), (4, .int x4), (5, .int x5), (7, .int x7)] → W p l e rmX8_areIn s m args below meth c H locs 0 0 (MQ below (va_Qi Q (q_B D g A) A) args s rmX8_areIn.cells rmX8_areIn.slots A) (F0 m 168 ls [.int y0]) := by
    intro k23 ih23 a0 x1 x2 x3 x4 x5 x7 y0 S H locs ls h hp hl
    unfold wX8_areIn_b168 at h
    refine q_ist (lv' := [(6, .int y0), (0, .ref a0), (1, .int x1), (2, .int x2), (3, .int x3), (4, .int x4), (5, .int x5), (7, .int x7)]) hx hb dX8_areIn_168 hl (by decide) rfl (fun ls hl => ?_)
    refine q_inc (x := x7) (v := (x7 + (1 : Int32))) (lv' := [(7, .int (x7 + (1 : Int32))), (6, .int y0), (0, .ref a0), (1, .int x1), (2, .int x2), (3, .int x3), (4, .int x4), (5, .int x5)]) hx hb dX8_areIn_170 hl (k := 7) rfl rfl (by decide) rfl (fun ls hl => ?_)
    refine lv_goto (tgt := 23) hx hb dX8_areIn_173 (by decide) ?_
    exact ih23 a0 x1 x2 x3 x4 x5 y0 (x7 + (1 : Int32)) _ _ _ _ h hp (q_sub hl [2, 3, 4, 5, 6, 7, 1, 0] rfl)
  have j167 : ∀ (k23 : Nat → Int32 → Int32 → Int32 → Int32 → Int32 → Int32 → Int32 → q_S → Prop) (ih23 : ∀ (a0 : Nat) (x1 : Int32) (x2 : Int32) (x3 : Int32) (x4 : Int32) (x5 : Int32) (x6 : Int32) (x7 : Int32) (S : q_S) (H : Heap) (locs : List Loc) (ls : Array Slot), k23 a0 x1 x2 x3 x4 x5 x6 x7 S → q_P D g A s.heap S H locs → q_l ls 9 [(0, .ref a0), (1, .int x1), (2, .int x2), (3, .int x3), (4, .int x4), (5, .int x5), (6, .int x6), (7, .int x7)] → W p l e rmX8_areIn s m args below meth c H locs 0 0 (MQ below (va_Qi Q (q_B D g A) A) args s rmX8_areIn.cells rmX8_areIn.slots A) (F0 m 23 ls [])) (a0 : Nat) (x1 : Int32) (x2 : Int32) (x3 : Int32) (x4 : Int32) (x5 : Int32) (x7 : Int32) (S : q_S) (H : Heap) (locs : List Loc) (ls : Array Slot), wX8_areIn_b167 Q k23 a0 x1 x2 x3 x4 x5 x7 S → q_P D g A s.heap S H locs → q_l ls 9 [(0, .ref a0), (1, .int x1), (2, .int x2), (3, .int x3), (4, .int x4), (5, .int x5), (7, .int x7)] → W p l e rmX8_areIn s m args below meth c H locs 0 0 (MQ below (va_Qi Q (q_B D g A) A) args s rmX8_areIn.cells rmX8_areIn.slots A) (F0 m 167 ls []) := by
    intro k23 ih23 a0 x1 x2 x3 x4 x5 x7 S H locs ls h hp hl
    unfold wX8_areIn_b167 at h
    refine lv_iconst (v := 0) hx hb dX8_areIn_167 (by decide) ?_
    exact j168 k23 ih23 a0 x1 x2 x3 x4 x5 x7 (0 : Int32) _ _ _ _ h hp (q_sub hl [0, 1, 2, 3, 4, 5, 6] rfl)
  have j163 : ∀ (k23 : Nat → Int32 → Int32 → Int32 → Int32 → Int32 → Int32 → Int32 → q_S → Prop) (ih23 : ∀ (a0 : Nat) (x1 : Int32) (x2 : Int32) (x3 : Int32) (x4 : Int32) (x5 : Int32) (x6 : Int32) (x7 : Int32) (S : q_S) (H : Heap) (locs : List Loc) (ls : Array Slot), k23 a0 x1 x2 x3 x4 x5 x6 x7 S → q_P D g A s.heap S H locs → q_l ls 9 [(0, .ref a0), (1, .int x1), (2, .int x2), (3, .int x3), (4, .int x4), (5, .int x5), (6, .int x6), (7, .int x7)] → W p l e rmX8_areIn s m args below meth c H locs 0 0 (MQ below (va_Qi Q (q_B D g A) A) args s rmX8_areIn.cells rmX8_areIn.slots A) (F0 m 23 ls [])) (a0 : Nat) (x1 : Int32) (x2 : Int32) (x3 : Int32) (x4 : Int32) (x5 : Int32) (x7 : Int32) (S : q_S) (H : Heap) (locs : List Loc) (ls : Array Slot), wX8_areIn_b163 Q k23 a0 x1 x2 x3 x4 x5 x7 S → q_P D g A s.heap S H locs → q_l ls 9 [(0, .ref a0), (1, .int x1), (2, .int x2), (3, .int x3), (4, .int x4), (5, .int x5), (7, .int x7)] → W p l e rmX8_areIn s m args below meth c H locs 0 0 (MQ below (va_Qi Q (q_B D g A) A) args s rmX8_areIn.cells rmX8_areIn.slots A) (F0 m 163 ls []) := by
    intro k23 ih23 a0 x1 x2 x3 x4 x5 x7 S H locs ls h hp hl
    unfold wX8_areIn_b163 at h
    refine lv_iconst (v := 1) hx hb dX8_areIn_163 (by decide) ?_
    refine lv_goto (tgt := 168) hx hb dX8_areIn_164 (by decide) ?_
    exact j168 k23 ih23 a0 x1 x2 x3 x4 x5 x7 (1 : Int32) _ _ _ _ h hp (q_sub hl [0, 1, 2, 3, 4, 5, 6] rfl)
  have j93 : ∀ (k23 : Nat → Int32 → Int32 → Int32 → Int32 → Int32 → Int32 → Int32 → q_S → Prop) (ih23 : ∀ (a0 : Nat) (x1 : Int32) (x2 : Int32) (x3 : Int32) (x4 : Int32) (x5 : Int32) (x6 : Int32) (x7 : Int32) (S : q_S) (H : Heap) (locs : List Loc) (ls : Array Slot), k23 a0 x1 x2 x3 x4 x5 x6 x7 S → q_P D g A s.heap S H locs → q_l ls 9 [(0, .ref a0), (1, .int x1), (2, .int x2), (3, .int x3), (4, .int x4), (5, .int x5), (6, .int x6), (7, .int x7)] → W p l e rmX8_areIn s m args below meth c H locs 0 0 (MQ below (va_Qi Q (q_B D g A) A) args s rmX8_areIn.cells rmX8_areIn.slots A) (F0 m 23 ls [])) (a0 : Nat) (x1 : Int32) (x2 : Int32) (x3 : Int32) (x4 : Int32) (x5 : Int32) (x6 : Int32) (x7 : Int32) (y0 : Int32) (S : q_S) (H : Heap) (locs : List Loc) (ls : Array Slot), wX8_areIn_b93 Q k23 a0 x1 x2 x3 x4 x5 x6 x7 y0 S → q_P D g A s.heap S H locs → q_l ls 9 [(0, .ref a0), (1, .int x1), (2, .int x2), (3, .int x3), (4, .int x4), (5, .int x5), (6, .int x6), (7, .int x7)] → W p l e rmX8_areIn s m args below meth c H locs 0 0 (MQ below (va_Qi Q (q_B D g A) A) args s rmX8_areIn.cells rmX8_areIn.slots A) (F0 m 93 ls [.int y0]) := by
    intro k23 ih23 a0 x1 x2 x3 x4 x5 x6 x7 y0 S H locs ls h hp hl
    unfold wX8_areIn_b93 at h
    refine q_ist (lv' := [(8, .int y0), (0, .ref a0), (1, .int x1), (2, .int x2), (3, .int x3), (4, .int x4), (5, .int x5), (6, .int x6), (7, .int x7)]) hx hb dX8_areIn_93 hl (by decide) rfl (fun ls hl => ?_)
    refine lv_iload hx hb dX8_areIn_95 (q_at hl 7 rfl) ?_
    refine lv_if_ne (tgt := 163) hx hb dX8_areIn_97 (by decide) (fun c_1 => ?_) (fun c_1 => ?_)
    · replace h := h.1 c_1
      exact j163 k23 ih23 a0 x1 x2 x3 x4 x5 x7 _ _ _ _ h hp (q_sub hl [1, 2, 3, 4, 5, 6, 8] rfl)
    · replace h := h.2 c_1
      refine lv_iload hx hb dX8_areIn_100 (q_at hl 0 rfl) ?_
      refine lv_if_eq (tgt := 167) hx hb dX8_areIn_102 (by decide) (fun c_2 => ?_) (fun c_2 => ?_)
      · replace h := h.1 c_2
        exact j167 k23 ih23 a0 x1 x2 x3 x4 x5 x7 _ _ _ _ h hp (q_sub hl [1, 2, 3, 4, 5, 6, 8] rfl)
      · replace h := h.2 c_2
        refine lv_iload_n hx hb dX8_areIn_105 rfl (q_at hl 4 rfl) ?_
        refine lv_if_eq (tgt := 163) hx hb dX8_areIn_106 (by decide) (fun c_3 => ?_) (fun c_3 => ?_)
        · replace h := h.1 c_3
          exact j163 k23 ih23 a0 x1 x2 x3 x4 x5 x7 _ _ _ _ h hp (q_sub hl [1, 2, 3, 4, 5, 6, 8] rfl)
        · replace h := h.2 c_3
          refine lv_aload_n hx hb dX8_areIn_109 rfl (q_at hl 1 rfl) ?_
          refine q_rGR C hp h rfl iX8_areIn_X8 (by decide) kX8_areIn_19 dX8_areIn_110 (fun r_4 h => ?_)
          refine lv_bipush (v := 8) hx hb dX8_areIn_113 (by decide) ?_
          refine lv_iload_n hx hb dX8_areIn_115 rfl (q_at hl 2 rfl) ?_
          refine lv_imul hx hb dX8_areIn_116 ?_
          refine lv_iload hx hb dX8_areIn_117 (q_at hl 6 rfl) ?_
          refine lv_iadd hx hb dX8_areIn_119 ?_
          refine q_rLI C hp h dX8_areIn_120 (fun v_5 h => ?_)
          refine lv_aload_n hx hb dX8_areIn_121 rfl (q_at hl 1 rfl) ?_
          refine q_rGR C hp h rfl iX8_areIn_X8 (by decide) kX8_areIn_19 dX8_areIn_122 (fun r_6 h => ?_)
          refine lv_bipush (v := 8) hx hb dX8_areIn_125 (by decide) ?_
          refine lv_iload_n hx hb dX8_areIn_127 rfl (q_at hl 3 rfl) ?_
          refine lv_imul hx hb dX8_areIn_128 ?_
          refine lv_iload hx hb dX8_areIn_129 (q_at hl 8 rfl) ?_
          refine lv_iadd hx hb dX8_areIn_131 ?_
          refine q_rLI C hp h dX8_areIn_132 (fun v_7 h => ?_)
          refine lv_icmp_ne (tgt := 167) hx hb dX8_areIn_133 (by decide) (fun c_8 => ?_) (fun c_8 => ?_)
          · replace h := h.1 c_8
            exact j167 k23 ih23 a0 x1 x2 x3 x4 x5 x7 _ _ _ _ h hp (q_sub hl [1, 2, 3, 4, 5, 6, 8] rfl)
          · replace h := h.2 c_8
            refine lv_aload_n hx hb dX8_areIn_136 rfl (q_at hl 1 rfl) ?_
            refine q_rGR C hp h rfl iX8_areIn_X8 (by decide) kX8_areIn_22 dX8_areIn_137 (fun r_9 h => ?_)
            refine lv_bipush (v := 8) hx hb dX8_areIn_140 (by decide) ?_
            refine lv_iload_n hx hb dX8_areIn_142 rfl (q_at hl 2 rfl) ?_
            refine lv_imul hx hb dX8_areIn_143 ?_
            refine lv_iload hx hb dX8_areIn_144 (q_at hl 6 rfl) ?_
            refine lv_iadd hx hb dX8_areIn_146 ?_
            refine q_rLI C hp h dX8_areIn_147 (fun v_10 h => ?_)
            refine lv_aload_n hx hb dX8_areIn_148 rfl (q_at hl 1 rfl) ?_
            refine q_rGR C hp h rfl iX8_areIn_X8 (by decide) kX8_areIn_22 dX8_areIn_149 (fun r_11 h => ?_)
            refine lv_bipush (v := 8) hx hb dX8_areIn_152 (by decide) ?_
            refine lv_iload_n hx hb dX8_areIn_154 rfl (q_at hl 3 rfl) ?_
            refine lv_imul hx hb dX8_areIn_155 ?_
            refine lv_iload hx hb dX8_areIn_156 (q_at hl 8 rfl) ?_
            refine lv_iadd hx hb dX8_areIn_158 ?_
            refine q_rLI C hp h dX8_areIn_159 (fun v_12 h => ?_)
            refine lv_icmp_ne (tgt := 167) hx hb dX8_areIn_160 (by decide) (fun c_13 => ?_) (fun c_13 => ?_)
            · replace h := h.1 c_13
              exact j167 k23 ih23 a0 x1 x2 x3 x4 x5 x7 _ _ _ _ h hp (q_sub hl [1, 2, 3, 4, 5, 6, 8] rfl)
            · replace h := h.2 c_13
              exact j163 k23 ih23 a0 x1 x2 x3 x4 x5 x7 _ _ _ _ h hp (q_sub hl [1, 2, 3, 4, 5, 6, 8] rfl)
  have j92 : ∀ (k23 : Nat → Int32 → Int32 → Int32 → Int32 → Int32 → Int32 → Int32 → q_S → Prop) (ih23 : ∀ (a0 : Nat) (x1 : Int32) (x2 : Int32) (x3 : Int32) (x4 : Int32) (x5 : Int32) (x6 : Int32) (x7 : Int32) (S : q_S) (H : Heap) (locs : List Loc) (ls : Array Slot), k23 a0 x1 x2 x3 x4 x5 x6 x7 S → q_P D g A s.heap S H locs → q_l ls 9 [(0, .ref a0), (1, .int x1), (2, .int x2), (3, .int x3), (4, .int x4), (5, .int x5), (6, .int x6), (7, .int x7)] → W p l e rmX8_areIn s m args below meth c H locs 0 0 (MQ below (va_Qi Q (q_B D g A) A) args s rmX8_areIn.cells rmX8_areIn.slots A) (F0 m 23 ls [])) (a0 : Nat) (x1 : Int32) (x2 : Int32) (x3 : Int32) (x4 : Int32) (x5 : Int32) (x6 : Int32) (x7 : Int32) (S : q_S) (H : Heap) (locs : List Loc) (ls : Array Slot), wX8_areIn_b92 Q k23 a0 x1 x2 x3 x4 x5 x6 x7 S → q_P D g A s.heap S H locs → q_l ls 9 [(0, .ref a0), (1, .int x1), (2, .int x2), (3, .int x3), (4, .int x4), (5, .int x5), (6, .int x6), (7, .int x7)] → W p l e rmX8_areIn s m args below meth c H locs 0 0 (MQ below (va_Qi Q (q_B D g A) A) args s rmX8_areIn.cells rmX8_areIn.slots A) (F0 m 92 ls []) := by
    intro k23 ih23 a0 x1 x2 x3 x4 x5 x6 x7 S H locs ls h hp hl
    unfold wX8_areIn_b92 at h
    refine lv_iconst (v := 0) hx hb dX8_areIn_92 (by decide) ?_
    exact j93 k23 ih23 a0 x1 x2 x3 x4 x5 x6 x7 (0 : Int32) _ _ _ _ h hp (q_sub hl [0, 1, 2, 3, 4, 5, 6, 7] rfl)
  have j23 : ∀ (k6 : Nat → Int32 → Int32 → Int32 → Int32 → Int32 → q_S → Prop) (ih6 : ∀ (a0 : Nat) (x1 : Int32) (x2 : Int32) (x3 : Int32) (x4 : Int32) (x5 : Int32) (S : q_S) (H : Heap) (locs : List Loc) (ls : Array Slot), k6 a0 x1 x2 x3 x4 x5 S → q_P D g A s.heap S H locs → q_l ls 9 [(0, .ref a0), (1, .int x1), (2, .int x2), (3, .int x3), (4, .int x4), (5, .int x5)] → W p l e rmX8_areIn s m args below meth c H locs 0 0 (MQ below (va_Qi Q (q_B D g A) A) args s rmX8_areIn.cells rmX8_areIn.slots A) (F0 m 6 ls [])) (n : Nat), ∀ (a0 : Nat) (x1 : Int32) (x2 : Int32) (x3 : Int32) (x4 : Int32) (x5 : Int32) (x6 : Int32) (x7 : Int32) (S : q_S) (H : Heap) (locs : List Loc) (ls : Array Slot), lX8_areIn_b23 Q k6 n a0 x1 x2 x3 x4 x5 x6 x7 S → q_P D g A s.heap S H locs → q_l ls 9 [(0, .ref a0), (1, .int x1), (2, .int x2), (3, .int x3), (4, .int x4), (5, .int x5), (6, .int x6), (7, .int x7)] → W p l e rmX8_areIn s m args below meth c H locs 0 0 (MQ below (va_Qi Q (q_B D g A) A) args s rmX8_areIn.cells rmX8_areIn.slots A) (F0 m 23 ls []) := by
    intro k6 ih6
    intro n
    induction n with
    | zero => intro a0 x1 x2 x3 x4 x5 x6 x7 S H locs ls h; exact absurd h (fun h => h)
    | succ n ih23 =>
      intro a0 x1 x2 x3 x4 x5 x6 x7 S H locs ls h hp hl
      have h : wX8_areIn_b23 Q k6 (lX8_areIn_b23 Q k6 n) a0 x1 x2 x3 x4 x5 x6 x7 S := h
      unfold wX8_areIn_b23 at h
      refine lv_iload hx hb dX8_areIn_23 (q_at hl 7 rfl) ?_
      refine lv_aload_n hx hb dX8_areIn_25 rfl (q_at hl 0 rfl) ?_
      refine q_rGR C hp h rfl iX8_areIn_X8 (by decide) kX8_areIn_7 dX8_areIn_26 (fun r_14 h => ?_)
      refine lv_iload_n hx hb dX8_areIn_29 rfl (q_at hl 2 rfl) ?_
      refine q_rLI C hp h dX8_areIn_30 (fun v_15 h => ?_)
      refine lv_icmp_ge (tgt := 176) hx hb dX8_areIn_31 (by decide) (fun c_16 => ?_) (fun c_16 => ?_)
      · replace h := h.1 c_16
        refine lv_iload hx hb dX8_areIn_176 (q_at hl 4 rfl) ?_
        refine lv_if_eq (tgt := 190) hx hb dX8_areIn_178 (by decide) (fun c_17 => ?_) (fun c_17 => ?_)
        · replace h := h.1 c_17
          exact j190 k6 ih6 a0 x1 x2 x3 x5 _ _ _ _ h hp (q_sub hl [0, 1, 2, 3, 5] rfl)
        · replace h := h.2 c_17
          refine lv_iload hx hb dX8_areIn_181 (q_at hl 6 rfl) ?_
          refine lv_if_eq (tgt := 190) hx hb dX8_areIn_183 (by decide) (fun c_18 => ?_) (fun c_18 => ?_)
          · replace h := h.1 c_18
            exact j190 k6 ih6 a0 x1 x2 x3 x5 _ _ _ _ h hp (q_sub hl [0, 1, 2, 3, 5] rfl)
          · replace h := h.2 c_18
            refine lv_iconst (v := 1) hx hb dX8_areIn_186 (by decide) ?_
            refine lv_goto (tgt := 191) hx hb dX8_areIn_187 (by decide) ?_
            exact j191 k6 ih6 a0 x1 x2 x3 x5 (1 : Int32) _ _ _ _ h hp (q_sub hl [0, 1, 2, 3, 5] rfl)
      · replace h := h.2 c_16
        refine lv_aload_n hx hb dX8_areIn_34 rfl (q_at hl 0 rfl) ?_
        refine q_rGR C hp h rfl iX8_areIn_X8 (by decide) kX8_areIn_13 dX8_areIn_35 (fun r_19 h => ?_)
        refine lv_bipush (v := 8) hx hb dX8_areIn_38 (by decide) ?_
        refine lv_iload_n hx hb dX8_areIn_40 rfl (q_at hl 1 rfl) ?_
        refine lv_imul hx hb dX8_areIn_41 ?_
        refine lv_iload hx hb dX8_areIn_42 (q_at hl 5 rfl) ?_
        refine lv_iadd hx hb dX8_areIn_44 ?_
        refine q_rLI C hp h dX8_areIn_45 (fun v_20 h => ?_)
        refine lv_aload_n hx hb dX8_areIn_46 rfl (q_at hl 0 rfl) ?_
        refine q_rGR C hp h rfl iX8_areIn_X8 (by decide) kX8_areIn_13 dX8_areIn_47 (fun r_21 h => ?_)
        refine lv_bipush (v := 8) hx hb dX8_areIn_50 (by decide) ?_
        refine lv_iload_n hx hb dX8_areIn_52 rfl (q_at hl 2 rfl) ?_
        refine lv_imul hx hb dX8_areIn_53 ?_
        refine lv_iload hx hb dX8_areIn_54 (q_at hl 7 rfl) ?_
        refine lv_iadd hx hb dX8_areIn_56 ?_
        refine q_rLI C hp h dX8_areIn_57 (fun v_22 h => ?_)
        refine lv_icmp_ne (tgt := 92) hx hb dX8_areIn_58 (by decide) (fun c_23 => ?_) (fun c_23 => ?_)
        · replace h := h.1 c_23
          exact j92 (lX8_areIn_b23 Q k6 n) ih23 a0 x1 x2 x3 x4 x5 x6 x7 _ _ _ _ h hp (q_sub hl [0, 1, 2, 3, 4, 5, 6, 7] rfl)
        · replace h := h.2 c_23
          refine lv_aload_n hx hb dX8_areIn_61 rfl (q_at hl 0 rfl) ?_
          refine q_rGR C hp h rfl iX8_areIn_X8 (by decide) kX8_areIn_16 dX8_areIn_62 (fun r_24 h => ?_)
          refine lv_bipush (v := 8) hx hb dX8_areIn_65 (by decide) ?_
          refine lv_iload_n hx hb dX8_areIn_67 rfl (q_at hl 1 rfl) ?_
          refine lv_imul hx hb dX8_areIn_68 ?_
          refine lv_iload hx hb dX8_areIn_69 (q_at hl 5 rfl) ?_
          refine lv_iadd hx hb dX8_areIn_71 ?_
          refine q_rLI C hp h dX8_areIn_72 (fun v_25 h => ?_)
          refine lv_aload_n hx hb dX8_areIn_73 rfl (q_at hl 0 rfl) ?_
          refine q_rGR C hp h rfl iX8_areIn_X8 (by decide) kX8_areIn_16 dX8_areIn_74 (fun r_26 h => ?_)
          refine lv_bipush (v := 8) hx hb dX8_areIn_77 (by decide) ?_
          refine lv_iload_n hx hb dX8_areIn_79 rfl (q_at hl 2 rfl) ?_
          refine lv_imul hx hb dX8_areIn_80 ?_
          refine lv_iload hx hb dX8_areIn_81 (q_at hl 7 rfl) ?_
          refine lv_iadd hx hb dX8_areIn_83 ?_
          refine q_rLI C hp h dX8_areIn_84 (fun v_27 h => ?_)
          refine lv_icmp_ne (tgt := 92) hx hb dX8_areIn_85 (by decide) (fun c_28 => ?_) (fun c_28 => ?_)
          · replace h := h.1 c_28
            exact j92 (lX8_areIn_b23 Q k6 n) ih23 a0 x1 x2 x3 x4 x5 x6 x7 _ _ _ _ h hp (q_sub hl [0, 1, 2, 3, 4, 5, 6, 7] rfl)
          · replace h := h.2 c_28
            refine lv_iconst (v := 1) hx hb dX8_areIn_88 (by decide) ?_
            refine lv_goto (tgt := 93) hx hb dX8_areIn_89 (by decide) ?_
            exact j93 (lX8_areIn_b23 Q k6 n) ih23 a0 x1 x2 x3 x4 x5 x6 x7 (1 : Int32) _ _ _ _ h hp (q_sub hl [0, 1, 2, 3, 4, 5, 6, 7] rfl)
  have j6 : ∀ (n : Nat), ∀ (a0 : Nat) (x1 : Int32) (x2 : Int32) (x3 : Int32) (x4 : Int32) (x5 : Int32) (S : q_S) (H : Heap) (locs : List Loc) (ls : Array Slot), lX8_areIn_b6 Q n a0 x1 x2 x3 x4 x5 S → q_P D g A s.heap S H locs → q_l ls 9 [(0, .ref a0), (1, .int x1), (2, .int x2), (3, .int x3), (4, .int x4), (5, .int x5)] → W p l e rmX8_areIn s m args below meth c H locs 0 0 (MQ below (va_Qi Q (q_B D g A) A) args s rmX8_areIn.cells rmX8_areIn.slots A) (F0 m 6 ls []) := by
    intro n
    induction n with
    | zero => intro a0 x1 x2 x3 x4 x5 S H locs ls h; exact absurd h (fun h => h)
    | succ n ih6 =>
      intro a0 x1 x2 x3 x4 x5 S H locs ls h hp hl
      have h : wX8_areIn_b6 Q (lX8_areIn_b6 Q n) a0 x1 x2 x3 x4 x5 S := h
      unfold wX8_areIn_b6 at h
      refine lv_iload hx hb dX8_areIn_6 (q_at hl 5 rfl) ?_
      refine lv_aload_n hx hb dX8_areIn_8 rfl (q_at hl 0 rfl) ?_
      refine q_rGR C hp h rfl iX8_areIn_X8 (by decide) kX8_areIn_7 dX8_areIn_9 (fun r_29 h => ?_)
      refine lv_iload_n hx hb dX8_areIn_12 rfl (q_at hl 1 rfl) ?_
      refine q_rLI C hp h dX8_areIn_13 (fun v_30 h => ?_)
      refine lv_icmp_ge (tgt := 199) hx hb dX8_areIn_14 (by decide) (fun c_31 => ?_) (fun c_31 => ?_)
      · replace h := h.1 c_31
        refine lv_iload hx hb dX8_areIn_199 (q_at hl 4 rfl) ?_
        exact q_zret C hp hr h dX8_areIn_201
      · replace h := h.2 c_31
        refine lv_iconst (v := 0) hx hb dX8_areIn_17 (by decide) ?_
        refine q_ist (lv' := [(6, .int (0 : Int32)), (0, .ref a0), (1, .int x1), (2, .int x2), (3, .int x3), (4, .int x4), (5, .int x5)]) hx hb dX8_areIn_18 hl (by decide) rfl (fun ls hl => ?_)
        refine lv_iconst (v := 0) hx hb dX8_areIn_20 (by decide) ?_
        refine q_ist (lv' := [(7, .int (0 : Int32)), (6, .int (0 : Int32)), (0, .ref a0), (1, .int x1), (2, .int x2), (3, .int x3), (4, .int x4), (5, .int x5)]) hx hb dX8_areIn_21 hl (by decide) rfl (fun ls hl => ?_)
        exact j23 (lX8_areIn_b6 Q n) ih6 q_fuel a0 x1 x2 x3 x4 x5 (0 : Int32) (0 : Int32) _ _ _ _ h hp (q_sub hl [2, 3, 4, 5, 6, 7, 1, 0] rfl)
  unfold wX8_areIn at h
  replace h := h.2
  refine lv_iconst (v := 1) hx hb dX8_areIn_0 (by decide) ?_
  refine q_ist (lv' := [(4, .int (1 : Int32)), (0, .ref a0), (1, .int x1), (2, .int x2), (3, .int x3)]) hx hb dX8_areIn_1 hl (by decide) rfl (fun ls hl => ?_)
  refine lv_iconst (v := 0) hx hb dX8_areIn_3 (by decide) ?_
  refine q_ist (lv' := [(5, .int (0 : Int32)), (4, .int (1 : Int32)), (0, .ref a0), (1, .int x1), (2, .int x2), (3, .int x3)]) hx hb dX8_areIn_4 hl (by decide) rfl (fun ls hl => ?_)
  exact j6 q_fuel a0 x1 x2 x3 (1 : Int32) (0 : Int32) _ _ _ _ h hp (q_sub hl [2, 3, 4, 5, 1, 0] rfl)
theorem kX8_condensedAt_7 : Cond.fieldLink RX8 7 (TX8 2).1 (TX8 2).2.1 (TX8 2).2.2.1 ∈ wsX8_condensedAt := by decide +kernel
theorem iX8_condensedAt_X8 : ∀ w ∈ u_ws RX8 TX8 36, w ∈ wsX8_condensedAt := by decide +kernel
set_option maxHeartbeats 4000000 in
set_option maxRecDepth 100000 in
theorem RX8_condensedAt (l : Launch) (D : va_G) (g : q_A) (S : q_S) (a0 : Nat) (x1 : Int32) (x2 : Int32) (x3 : Int32) (Q : Int32 → q_S → Prop) (h : wX8_condensedAt a0 x1 x2 x3 Q S) : q_Mi l yX8_condensedAt wsX8_condensedAt rmX8_condensedAt D g [.ref a0, .int x1, .int x2, .int x3] S Q := by
  refine q_Mi.of (cc := cX8_condensedAt) (nL := 6) (rt := .int) (by decide +kernel) rfl (Nat.le_of_ble_eq_true rfl) rfl ?_
  intro p e s m args below meth c ls A C hr hnm hp hl
  have C : q_X p s m args meth c cX8_condensedAt 6 RX8 wsX8_condensedAt D g A := C
  have hx := C.1
  have hb := C.2.1
  have hl : q_l ls 6 [(0, .ref a0), (1, .int x1), (2, .int x2), (3, .int x3)] := hl
  have j109 : ∀ (a0 : Nat) (x4 : Int32) (x5 : Int32) (S : q_S) (H : Heap) (locs : List Loc) (ls : Array Slot), wX8_condensedAt_b109 Q a0 x4 x5 S → q_P D g A s.heap S H locs → q_l ls 6 [(0, .ref a0), (4, .int x4), (5, .int x5)] → W p l e rmX8_condensedAt s m args below meth c H locs 0 0 (MQ below (va_Qi Q (q_B D g A) A) args s rmX8_condensedAt.cells rmX8_condensedAt.slots A) (F0 m 109 ls []) := by
    intro a0 x4 x5 S H locs ls h hp hl
    unfold wX8_condensedAt_b109 at h
    refine lv_aload_n hx hb dX8_condensedAt_109 rfl (q_at hl 0 rfl) ?_
    refine lv_iload hx hb dX8_condensedAt_110 (q_at hl 1 rfl) ?_
    refine lv_iload hx hb dX8_condensedAt_112 (q_at hl 2 rfl) ?_
    refine lv_iconst (v := 0) hx hb dX8_condensedAt_114 (by decide) ?_
    refine q_finI0 C hp (q_runV (As := [.int x4, .int x5, .int (0 : Int32)]) (rest := []) C hp (RX8_areIn l D g _ a0 x4 x5 (0 : Int32) _ h _) (cwV 3 C.2.2.2.2.1 gX8_condensedAt_X8_areIn rfl rfl rfl (by decide +kernel) ⟨(Nat.le_of_ble_eq_true rfl), (Nat.le_of_ble_eq_true rfl)⟩) h.1 rfl rfl hl.1.1 rfl (Nat.le_of_ble_eq_true rfl) dX8_condensedAt_115 ⟨(Nat.le_of_ble_eq_true rfl), (Nat.le_of_ble_eq_true rfl)⟩) rfl rfl (fun v_2 S_1 H locs h hp => ?_)
    refine lv_if_eq (tgt := 137) hx hb dX8_condensedAt_118 (by decide) (fun c_3 => ?_) (fun c_3 => ?_)
    · replace h := h.1 c_3
      refine lv_iconst (v := 5) hx hb dX8_condensedAt_137 (by decide) ?_
      exact q_iret C hp hr h dX8_condensedAt_138
    · replace h := h.2 c_3
      refine lv_aload_n hx hb dX8_condensedAt_121 rfl (q_at hl 0 rfl) ?_
      refine lv_iload hx hb dX8_condensedAt_122 (q_at hl 2 rfl) ?_
      refine lv_iload hx hb dX8_condensedAt_124 (q_at hl 1 rfl) ?_
      refine lv_iconst (v := 0) hx hb dX8_condensedAt_126 (by decide) ?_
      refine q_finI0 C hp (q_runV (As := [.int x5, .int x4, .int (0 : Int32)]) (rest := []) C hp (RX8_areIn l D g _ a0 x5 x4 (0 : Int32) _ h _) (cwV 3 C.2.2.2.2.1 gX8_condensedAt_X8_areIn rfl rfl rfl (by decide +kernel) ⟨(Nat.le_of_ble_eq_true rfl), (Nat.le_of_ble_eq_true rfl)⟩) h.1 rfl rfl hl.1.1 rfl (Nat.le_of_ble_eq_true rfl) dX8_condensedAt_127 ⟨(Nat.le_of_ble_eq_true rfl), (Nat.le_of_ble_eq_true rfl)⟩) rfl rfl (fun v_5 S_4 H locs h hp => ?_)
      refine lv_if_eq (tgt := 137) hx hb dX8_condensedAt_130 (by decide) (fun c_6 => ?_) (fun c_6 => ?_)
      · replace h := h.1 c_6
        refine lv_iconst (v := 5) hx hb dX8_condensedAt_137 (by decide) ?_
        exact q_iret C hp hr h dX8_condensedAt_138
      · replace h := h.2 c_6
        refine lv_iconst (v := 2) hx hb dX8_condensedAt_133 (by decide) ?_
        refine lv_goto (tgt := 138) hx hb dX8_condensedAt_134 (by decide) ?_
        exact q_iret C hp hr h dX8_condensedAt_138
  have j36 : ∀ (a0 : Nat) (x4 : Int32) (x5 : Int32) (S : q_S) (H : Heap) (locs : List Loc) (ls : Array Slot), wX8_condensedAt_b36 Q a0 x4 x5 S → q_P D g A s.heap S H locs → q_l ls 6 [(0, .ref a0), (4, .int x4), (5, .int x5)] → W p l e rmX8_condensedAt s m args below meth c H locs 0 0 (MQ below (va_Qi Q (q_B D g A) A) args s rmX8_condensedAt.cells rmX8_condensedAt.slots A) (F0 m 36 ls []) := by
    intro a0 x4 x5 S H locs ls h hp hl
    unfold wX8_condensedAt_b36 at h
    refine lv_aload_n hx hb dX8_condensedAt_36 rfl (q_at hl 0 rfl) ?_
    refine q_rGR C hp h rfl iX8_condensedAt_X8 (by decide) kX8_condensedAt_7 dX8_condensedAt_37 (fun r_7 h => ?_)
    refine lv_iload hx hb dX8_condensedAt_40 (q_at hl 1 rfl) ?_
    refine q_rLI C hp h dX8_condensedAt_42 (fun v_8 h => ?_)
    refine lv_if_le (tgt := 50) hx hb dX8_condensedAt_43 (by decide) (fun c_9 => ?_) (fun c_9 => ?_)
    · replace h := h.1 c_9
      refine lv_aload_n hx hb dX8_condensedAt_50 rfl (q_at hl 0 rfl) ?_
      refine q_rGR C hp h rfl iX8_condensedAt_X8 (by decide) kX8_condensedAt_7 dX8_condensedAt_51 (fun r_10 h => ?_)
      refine lv_iload hx hb dX8_condensedAt_54 (q_at hl 2 rfl) ?_
      refine q_rLI C hp h dX8_condensedAt_56 (fun v_11 h => ?_)
      refine lv_if_le (tgt := 64) hx hb dX8_condensedAt_57 (by decide) (fun c_12 => ?_) (fun c_12 => ?_)
      · replace h := h.1 c_12
        refine lv_iconst (v := 0) hx hb dX8_condensedAt_64 (by decide) ?_
        exact q_iret C hp hr h dX8_condensedAt_65
      · replace h := h.2 c_12
        refine lv_iconst (v := 4) hx hb dX8_condensedAt_60 (by decide) ?_
        refine lv_goto (tgt := 65) hx hb dX8_condensedAt_61 (by decide) ?_
        exact q_iret C hp hr h dX8_condensedAt_65
    · replace h := h.2 c_9
      refine lv_iconst (v := 3) hx hb dX8_condensedAt_46 (by decide) ?_
      refine lv_goto (tgt := 65) hx hb dX8_condensedAt_47 (by decide) ?_
      exact q_iret C hp hr h dX8_condensedAt_65
  unfold wX8_condensedAt at h
  replace h := h.2
  refine lv_bipush (v := 40) hx hb dX8_condensedAt_0 (by decide) ?_
  refine lv_iload_n hx hb dX8_condensedAt_2 rfl (q_at hl 1 rfl) ?_
  refine lv_imul hx hb dX8_condensedAt_3 ?_
  refine lv_iload_n hx hb dX8_condensedAt_4 rfl (q_at hl 3 rfl) ?_
  refine lv_iadd hx hb dX8_condensedAt_5 ?_
  refine q_ist (lv' := [(4, .int (((40 : Int32) * x1) + x3)), (0, .ref a0), (1, .int x1), (2, .int x2), (3, .int x3)]) hx hb dX8_condensedAt_6 hl (by decide) rfl (fun ls hl => ?_)
  refine lv_bipush (v := 40) hx hb dX8_condensedAt_8 (by decide) ?_
  refine lv_iload_n hx hb dX8_condensedAt_10 rfl (q_at hl 3 rfl) ?_
  refine lv_imul hx hb dX8_condensedAt_11 ?_
  refine lv_iload_n hx hb dX8_condensedAt_12 rfl (q_at hl 4 rfl) ?_
  refine lv_iadd hx hb dX8_condensedAt_13 ?_
  refine q_ist (lv' := [(5, .int (((40 : Int32) * x2) + x3)), (4, .int (((40 : Int32) * x1) + x3)), (0, .ref a0), (1, .int x1), (2, .int x2), (3, .int x3)]) hx hb dX8_condensedAt_14 hl (by decide) rfl (fun ls hl => ?_)
  refine lv_aload_n hx hb dX8_condensedAt_16 rfl (q_at hl 2 rfl) ?_
  refine q_rGR C hp h rfl iX8_condensedAt_X8 (by decide) kX8_condensedAt_7 dX8_condensedAt_17 (fun r_13 h => ?_)
  refine lv_iload hx hb dX8_condensedAt_20 (q_at hl 1 rfl) ?_
  refine q_rLI C hp h dX8_condensedAt_22 (fun v_14 h => ?_)
  refine lv_if_eq (tgt := 36) hx hb dX8_condensedAt_23 (by decide) (fun c_15 => ?_) (fun c_15 => ?_)
  · replace h := h.1 c_15
    exact j36 a0 (((40 : Int32) * x1) + x3) (((40 : Int32) * x2) + x3) _ _ _ _ h hp (q_sub hl [2, 1, 0] rfl)
  · replace h := h.2 c_15
    refine lv_aload_n hx hb dX8_condensedAt_26 rfl (q_at hl 2 rfl) ?_
    refine q_rGR C hp h rfl iX8_condensedAt_X8 (by decide) kX8_condensedAt_7 dX8_condensedAt_27 (fun r_16 h => ?_)
    refine lv_iload hx hb dX8_condensedAt_30 (q_at hl 0 rfl) ?_
    refine q_rLI C hp h dX8_condensedAt_32 (fun v_17 h => ?_)
    refine lv_if_ne (tgt := 66) hx hb dX8_condensedAt_33 (by decide) (fun c_18 => ?_) (fun c_18 => ?_)
    · replace h := h.1 c_18
      refine lv_aload_n hx hb dX8_condensedAt_66 rfl (q_at hl 2 rfl) ?_
      refine q_rGR C hp h rfl iX8_condensedAt_X8 (by decide) kX8_condensedAt_7 dX8_condensedAt_67 (fun r_19 h => ?_)
      refine lv_iload hx hb dX8_condensedAt_70 (q_at hl 1 rfl) ?_
      refine q_rLI C hp h dX8_condensedAt_72 (fun v_20 h => ?_)
      refine lv_aload_n hx hb dX8_condensedAt_73 rfl (q_at hl 2 rfl) ?_
      refine q_rGR C hp h rfl iX8_condensedAt_X8 (by decide) kX8_condensedAt_7 dX8_condensedAt_74 (fun r_21 h => ?_)
      refine lv_iload hx hb dX8_condensedAt_77 (q_at hl 0 rfl) ?_
      refine q_rLI C hp h dX8_condensedAt_79 (fun v_22 h => ?_)
      refine lv_icmp_ne (tgt := 109) hx hb dX8_condensedAt_80 (by decide) (fun c_23 => ?_) (fun c_23 => ?_)
      · replace h := h.1 c_23
        exact j109 a0 (((40 : Int32) * x1) + x3) (((40 : Int32) * x2) + x3) _ _ _ _ h hp (q_sub hl [2, 1, 0] rfl)
      · replace h := h.2 c_23
        refine lv_aload_n hx hb dX8_condensedAt_83 rfl (q_at hl 2 rfl) ?_
        refine lv_iload hx hb dX8_condensedAt_84 (q_at hl 1 rfl) ?_
        refine lv_iload hx hb dX8_condensedAt_86 (q_at hl 0 rfl) ?_
        refine lv_iconst (v := 1) hx hb dX8_condensedAt_88 (by decide) ?_
        refine q_finI0 C hp (q_runV (As := [.int (((40 : Int32) * x1) + x3), .int (((40 : Int32) * x2) + x3), .int (1 : Int32)]) (rest := []) C hp (RX8_areIn l D g _ a0 (((40 : Int32) * x1) + x3) (((40 : Int32) * x2) + x3) (1 : Int32) _ h _) (cwV 3 C.2.2.2.2.1 gX8_condensedAt_X8_areIn rfl rfl rfl (by decide +kernel) ⟨(Nat.le_of_ble_eq_true rfl), (Nat.le_of_ble_eq_true rfl)⟩) h.1 rfl rfl hl.1.1 rfl (Nat.le_of_ble_eq_true rfl) dX8_condensedAt_89 ⟨(Nat.le_of_ble_eq_true rfl), (Nat.le_of_ble_eq_true rfl)⟩) rfl rfl (fun v_25 S_24 H locs h hp => ?_)
        refine lv_if_eq (tgt := 109) hx hb dX8_condensedAt_92 (by decide) (fun c_26 => ?_) (fun c_26 => ?_)
        · replace h := h.1 c_26
          exact j109 a0 (((40 : Int32) * x1) + x3) (((40 : Int32) * x2) + x3) _ _ _ _ h hp (q_sub hl [2, 1, 0] rfl)
        · replace h := h.2 c_26
          refine lv_aload_n hx hb dX8_condensedAt_95 rfl (q_at hl 2 rfl) ?_
          refine lv_iload hx hb dX8_condensedAt_96 (q_at hl 0 rfl) ?_
          refine lv_iload hx hb dX8_condensedAt_98 (q_at hl 1 rfl) ?_
          refine lv_iconst (v := 1) hx hb dX8_condensedAt_100 (by decide) ?_
          refine q_finI0 C hp (q_runV (As := [.int (((40 : Int32) * x2) + x3), .int (((40 : Int32) * x1) + x3), .int (1 : Int32)]) (rest := []) C hp (RX8_areIn l D g _ a0 (((40 : Int32) * x2) + x3) (((40 : Int32) * x1) + x3) (1 : Int32) _ h _) (cwV 3 C.2.2.2.2.1 gX8_condensedAt_X8_areIn rfl rfl rfl (by decide +kernel) ⟨(Nat.le_of_ble_eq_true rfl), (Nat.le_of_ble_eq_true rfl)⟩) h.1 rfl rfl hl.1.1 rfl (Nat.le_of_ble_eq_true rfl) dX8_condensedAt_101 ⟨(Nat.le_of_ble_eq_true rfl), (Nat.le_of_ble_eq_true rfl)⟩) rfl rfl (fun v_28 S_27 H locs h hp => ?_)
          refine lv_if_eq (tgt := 109) hx hb dX8_condensedAt_104 (by decide) (fun c_29 => ?_) (fun c_29 => ?_)
          · replace h := h.1 c_29
            exact j109 a0 (((40 : Int32) * x1) + x3) (((40 : Int32) * x2) + x3) _ _ _ _ h hp (q_sub hl [2, 1, 0] rfl)
          · replace h := h.2 c_29
            refine lv_iconst (v := 1) hx hb dX8_condensedAt_107 (by decide) ?_
            exact q_iret C hp hr h dX8_condensedAt_108
    · replace h := h.2 c_18
      exact j36 a0 (((40 : Int32) * x1) + x3) (((40 : Int32) * x2) + x3) _ _ _ _ h hp (q_sub hl [2, 1, 0] rfl)

set_option maxHeartbeats 4000000 in
set_option maxRecDepth 100000 in
theorem RX8_condensed (l : Launch) (D : va_G) (g : q_A) (S : q_S) (a0 : Nat) (x1 : Int32) (x2 : Int32) (x3 : Int32) (Q : Int32 → q_S → Prop) (h : wX8_condensed a0 x1 x2 x3 Q S) : q_Mi l yX8_condensed wsX8_condensed rmX8_condensed D g [.ref a0, .int x1, .int x2, .int x3] S Q := by
  refine q_Mi.of (cc := cX8_condensed) (nL := 4) (rt := .int) (by decide +kernel) rfl (Nat.le_of_ble_eq_true rfl) rfl ?_
  intro p e s m args below meth c ls A C hr hnm hp hl
  have C : q_X p s m args meth c cX8_condensed 4 RX8 wsX8_condensed D g A := C
  have hx := C.1
  have hb := C.2.1
  have hl : q_l ls 4 [(0, .ref a0), (1, .int x1), (2, .int x2), (3, .int x3)] := hl
  unfold wX8_condensed at h
  replace h := h.2
  refine lv_aload_n hx hb dX8_condensed_0 rfl (q_at hl 0 rfl) ?_
  refine lv_iload_n hx hb dX8_condensed_1 rfl (q_at hl 1 rfl) ?_
  refine q_finI0 C hp (q_runV (As := [.int x1]) (rest := []) C hp (RX8_isVoice l D g _ a0 x1 _ h _) (cwV 1 C.2.2.2.2.1 gX8_condensed_X8_isVoice rfl rfl rfl (by decide +kernel) ⟨(Nat.le_of_ble_eq_true rfl), (Nat.le_of_ble_eq_true rfl)⟩) h.1 rfl rfl hl.1.1 rfl (Nat.le_of_ble_eq_true rfl) dX8_condensed_2 ⟨(Nat.le_of_ble_eq_true rfl), (Nat.le_of_ble_eq_true rfl)⟩) rfl rfl (fun v_2 S_1 H locs h hp => ?_)
  refine lv_if_eq (tgt := 24) hx hb dX8_condensed_5 (by decide) (fun c_3 => ?_) (fun c_3 => ?_)
  · replace h := h.1 c_3
    refine lv_bipush (v := (-101)) hx hb dX8_condensed_24 (by decide) ?_
    exact q_iret C hp hr h dX8_condensed_26
  · replace h := h.2 c_3
    refine lv_aload_n hx hb dX8_condensed_8 rfl (q_at hl 0 rfl) ?_
    refine lv_iload_n hx hb dX8_condensed_9 rfl (q_at hl 2 rfl) ?_
    refine q_finI0 C hp (q_runV (As := [.int x2]) (rest := []) C hp (RX8_isVoice l D g _ a0 x2 _ h _) (cwV 1 C.2.2.2.2.1 gX8_condensed_X8_isVoice rfl rfl rfl (by decide +kernel) ⟨(Nat.le_of_ble_eq_true rfl), (Nat.le_of_ble_eq_true rfl)⟩) h.1 rfl rfl hl.1.1 rfl (Nat.le_of_ble_eq_true rfl) dX8_condensed_10 ⟨(Nat.le_of_ble_eq_true rfl), (Nat.le_of_ble_eq_true rfl)⟩) rfl rfl (fun v_5 S_4 H locs h hp => ?_)
    refine lv_if_eq (tgt := 24) hx hb dX8_condensed_13 (by decide) (fun c_6 => ?_) (fun c_6 => ?_)
    · replace h := h.1 c_6
      refine lv_bipush (v := (-101)) hx hb dX8_condensed_24 (by decide) ?_
      exact q_iret C hp hr h dX8_condensed_26
    · replace h := h.2 c_6
      refine lv_aload_n hx hb dX8_condensed_16 rfl (q_at hl 0 rfl) ?_
      refine lv_iload_n hx hb dX8_condensed_17 rfl (q_at hl 3 rfl) ?_
      refine q_finI0 C hp (q_runV (As := [.int x3]) (rest := []) C hp (RX8_isBar l D g _ a0 x3 _ h _) (cwV 1 C.2.2.2.2.1 gX8_condensed_X8_isBar rfl rfl rfl (by decide +kernel) ⟨(Nat.le_of_ble_eq_true rfl), (Nat.le_of_ble_eq_true rfl)⟩) h.1 rfl rfl hl.1.1 rfl (Nat.le_of_ble_eq_true rfl) dX8_condensed_18 ⟨(Nat.le_of_ble_eq_true rfl), (Nat.le_of_ble_eq_true rfl)⟩) rfl rfl (fun v_8 S_7 H locs h hp => ?_)
      refine lv_if_ne (tgt := 27) hx hb dX8_condensed_21 (by decide) (fun c_9 => ?_) (fun c_9 => ?_)
      · replace h := h.1 c_9
        refine lv_iload_n hx hb dX8_condensed_27 rfl (q_at hl 1 rfl) ?_
        refine lv_iload_n hx hb dX8_condensed_28 rfl (q_at hl 2 rfl) ?_
        refine lv_icmp_ne (tgt := 37) hx hb dX8_condensed_29 (by decide) (fun c_10 => ?_) (fun c_10 => ?_)
        · replace h := h.1 c_10
          refine lv_aload_n hx hb dX8_condensed_37 rfl (q_at hl 0 rfl) ?_
          refine lv_iload_n hx hb dX8_condensed_38 rfl (q_at hl 1 rfl) ?_
          refine lv_iload_n hx hb dX8_condensed_39 rfl (q_at hl 2 rfl) ?_
          refine lv_iload_n hx hb dX8_condensed_40 rfl (q_at hl 3 rfl) ?_
          refine q_finI0 C hp (q_runV (As := [.int x1, .int x2, .int x3]) (rest := []) C hp (RX8_condensedAt l D g _ a0 x1 x2 x3 _ h _) (cwV 3 C.2.2.2.2.1 gX8_condensed_X8_condensedAt rfl rfl rfl (by decide +kernel) ⟨(Nat.le_of_ble_eq_true rfl), (Nat.le_of_ble_eq_true rfl)⟩) h.1 rfl rfl hl.1.1 rfl (Nat.le_of_ble_eq_true rfl) dX8_condensed_41 ⟨(Nat.le_of_ble_eq_true rfl), (Nat.le_of_ble_eq_true rfl)⟩) rfl rfl (fun v_12 S_11 H locs h hp => ?_)
          exact q_iret C hp hr h dX8_condensed_44
        · replace h := h.2 c_10
          refine lv_bipush (v := (-103)) hx hb dX8_condensed_32 (by decide) ?_
          refine lv_goto (tgt := 44) hx hb dX8_condensed_34 (by decide) ?_
          exact q_iret C hp hr h dX8_condensed_44
      · replace h := h.2 c_9
        refine lv_bipush (v := (-101)) hx hb dX8_condensed_24 (by decide) ?_
        exact q_iret C hp hr h dX8_condensed_26
theorem kX8_together_112 : Cond.fieldLink RX8 112 (TX8 1).1 (TX8 1).2.1 (TX8 1).2.2.1 ∈ wsX8_together := by decide +kernel
theorem iX8_together_X8 : ∀ w ∈ u_ws RX8 TX8 36, w ∈ wsX8_together := by decide +kernel
set_option maxHeartbeats 4000000 in
set_option maxRecDepth 100000 in
theorem RX8_together (l : Launch) (D : va_G) (g : q_A) (S : q_S) (a0 : Nat) (x1 : Int32) (x2 : Int32) (Q : Int32 → q_S → Prop) (h : wX8_together a0 x1 x2 Q S) : q_Mi l yX8_together wsX8_together rmX8_together D g [.ref a0, .int x1, .int x2] S Q := by
  refine q_Mi.of (cc := cX8_together) (nL := 5) (rt := .int) (by decide +kernel) rfl (Nat.le_of_ble_eq_true rfl) rfl ?_
  intro p e s m args below meth c ls A C hr hnm hp hl
  have C : q_X p s m args meth c cX8_together 5 RX8 wsX8_together D g A := C
  have hx := C.1
  have hb := C.2.1
  have hl : q_l ls 5 [(0, .ref a0), (1, .int x1), (2, .int x2)] := hl
  have j59 : ∀ (k32 : Nat → Int32 → Int32 → Int32 → Int32 → q_S → Prop) (ih32 : ∀ (a0 : Nat) (x1 : Int32) (x2 : Int32) (x3 : Int32) (x4 : Int32) (S : q_S) (H : Heap) (locs : List Loc) (ls : Array Slot), k32 a0 x1 x2 x3 x4 S → q_P D g A s.heap S H locs → q_l ls 5 [(0, .ref a0), (1, .int x1), (2, .int x2), (3, .int x3), (4, .int x4)] → W p l e rmX8_together s m args below meth c H locs 0 0 (MQ below (va_Qi Q (q_B D g A) A) args s rmX8_together.cells rmX8_together.slots A) (F0 m 32 ls [])) (a0 : Nat) (x1 : Int32) (x2 : Int32) (x4 : Int32) (y0 : Int32) (y1 : Int32) (S : q_S) (H : Heap) (locs : List Loc) (ls : Array Slot), wX8_together_b59 Q k32 a0 x1 x2 x4 y0 y1 S → q_P D g A s.heap S H locs → q_l ls 5 [(0, .ref a0), (1, .int x1), (2, .int x2), (4, .int x4)] → W p l e rmX8_together s m args below meth c H locs 0 0 (MQ below (va_Qi Q (q_B D g A) A) args s rmX8_together.cells rmX8_together.slots A) (F0 m 59 ls [.int y1, .int y0]) := by
    intro k32 ih32 a0 x1 x2 x4 y0 y1 S H locs ls h hp hl
    unfold wX8_together_b59 at h
    refine lv_iadd hx hb dX8_together_59 ?_
    refine q_istn (lv' := [(3, .int (y0 + y1)), (0, .ref a0), (1, .int x1), (2, .int x2), (4, .int x4)]) hx hb dX8_together_60 rfl hl (by decide) rfl (fun ls hl => ?_)
    refine q_inc (x := x4) (v := (x4 + (1 : Int32))) (lv' := [(4, .int (x4 + (1 : Int32))), (3, .int (y0 + y1)), (0, .ref a0), (1, .int x1), (2, .int x2)]) hx hb dX8_together_61 hl (k := 4) rfl rfl (by decide) rfl (fun ls hl => ?_)
    refine lv_goto (tgt := 32) hx hb dX8_together_64 (by decide) ?_
    exact ih32 a0 x1 x2 (y0 + y1) (x4 + (1 : Int32)) _ _ _ _ h hp (q_sub hl [2, 3, 4, 1, 0] rfl)
  have j32 : ∀ (n : Nat), ∀ (a0 : Nat) (x1 : Int32) (x2 : Int32) (x3 : Int32) (x4 : Int32) (S : q_S) (H : Heap) (locs : List Loc) (ls : Array Slot), lX8_together_b32 Q n a0 x1 x2 x3 x4 S → q_P D g A s.heap S H locs → q_l ls 5 [(0, .ref a0), (1, .int x1), (2, .int x2), (3, .int x3), (4, .int x4)] → W p l e rmX8_together s m args below meth c H locs 0 0 (MQ below (va_Qi Q (q_B D g A) A) args s rmX8_together.cells rmX8_together.slots A) (F0 m 32 ls []) := by
    intro n
    induction n with
    | zero => intro a0 x1 x2 x3 x4 S H locs ls h; exact absurd h (fun h => h)
    | succ n ih32 =>
      intro a0 x1 x2 x3 x4 S H locs ls h hp hl
      have h : wX8_together_b32 Q (lX8_together_b32 Q n) a0 x1 x2 x3 x4 S := h
      unfold wX8_together_b32 at h
      refine lv_iload hx hb dX8_together_32 (q_at hl 4 rfl) ?_
      refine lv_aload_n hx hb dX8_together_34 rfl (q_at hl 0 rfl) ?_
      refine q_rGI C hp h rfl iX8_together_X8 (by decide) kX8_together_112 dX8_together_35 (fun v_1 h => ?_)
      refine lv_icmp_ge (tgt := 67) hx hb dX8_together_38 (by decide) (fun c_2 => ?_) (fun c_2 => ?_)
      · replace h := h.1 c_2
        refine lv_iload_n hx hb dX8_together_67 rfl (q_at hl 3 rfl) ?_
        exact q_iret C hp hr h dX8_together_68
      · replace h := h.2 c_2
        refine lv_iload_n hx hb dX8_together_41 rfl (q_at hl 3 rfl) ?_
        refine lv_aload_n hx hb dX8_together_42 rfl (q_at hl 0 rfl) ?_
        refine lv_iload_n hx hb dX8_together_43 rfl (q_at hl 1 rfl) ?_
        refine lv_iload_n hx hb dX8_together_44 rfl (q_at hl 2 rfl) ?_
        refine lv_iload hx hb dX8_together_45 (q_at hl 4 rfl) ?_
        refine q_finI0 C hp (q_runV (As := [.int x1, .int x2, .int x4]) (rest := [.int x3]) C hp (RX8_condensedAt l D g _ a0 x1 x2 x4 _ h _) (cwV 3 C.2.2.2.2.1 gX8_together_X8_condensedAt rfl rfl rfl (by decide +kernel) ⟨(Nat.le_of_ble_eq_true rfl), (Nat.le_of_ble_eq_true rfl)⟩) h.1 rfl rfl hl.1.1 rfl (Nat.le_of_ble_eq_true rfl) dX8_together_47 ⟨(Nat.le_of_ble_eq_true rfl), (Nat.le_of_ble_eq_true rfl)⟩) rfl rfl (fun v_4 S_3 H locs h hp => ?_)
        refine lv_iconst (v := 5) hx hb dX8_together_50 (by decide) ?_
        refine lv_icmp_ge (tgt := 58) hx hb dX8_together_51 (by decide) (fun c_5 => ?_) (fun c_5 => ?_)
        · replace h := h.1 c_5
          refine lv_iconst (v := 0) hx hb dX8_together_58 (by decide) ?_
          exact j59 (lX8_together_b32 Q n) ih32 a0 x1 x2 x4 x3 (0 : Int32) _ _ _ _ h hp (q_sub hl [0, 1, 2, 4] rfl)
        · replace h := h.2 c_5
          refine lv_iconst (v := 1) hx hb dX8_together_54 (by decide) ?_
          refine lv_goto (tgt := 59) hx hb dX8_together_55 (by decide) ?_
          exact j59 (lX8_together_b32 Q n) ih32 a0 x1 x2 x4 x3 (1 : Int32) _ _ _ _ h hp (q_sub hl [0, 1, 2, 4] rfl)
  unfold wX8_together at h
  replace h := h.2
  refine lv_aload_n hx hb dX8_together_0 rfl (q_at hl 0 rfl) ?_
  refine lv_iload_n hx hb dX8_together_1 rfl (q_at hl 1 rfl) ?_
  refine q_finI0 C hp (q_runV (As := [.int x1]) (rest := []) C hp (RX8_isVoice l D g _ a0 x1 _ h _) (cwV 1 C.2.2.2.2.1 gX8_together_X8_isVoice rfl rfl rfl (by decide +kernel) ⟨(Nat.le_of_ble_eq_true rfl), (Nat.le_of_ble_eq_true rfl)⟩) h.1 rfl rfl hl.1.1 rfl (Nat.le_of_ble_eq_true rfl) dX8_together_2 ⟨(Nat.le_of_ble_eq_true rfl), (Nat.le_of_ble_eq_true rfl)⟩) rfl rfl (fun v_7 S_6 H locs h hp => ?_)
  refine lv_if_eq (tgt := 16) hx hb dX8_together_5 (by decide) (fun c_8 => ?_) (fun c_8 => ?_)
  · replace h := h.1 c_8
    refine lv_bipush (v := (-101)) hx hb dX8_together_16 (by decide) ?_
    exact q_iret C hp hr h dX8_together_18
  · replace h := h.2 c_8
    refine lv_aload_n hx hb dX8_together_8 rfl (q_at hl 0 rfl) ?_
    refine lv_iload_n hx hb dX8_together_9 rfl (q_at hl 2 rfl) ?_
    refine q_finI0 C hp (q_runV (As := [.int x2]) (rest := []) C hp (RX8_isVoice l D g _ a0 x2 _ h _) (cwV 1 C.2.2.2.2.1 gX8_together_X8_isVoice rfl rfl rfl (by decide +kernel) ⟨(Nat.le_of_ble_eq_true rfl), (Nat.le_of_ble_eq_true rfl)⟩) h.1 rfl rfl hl.1.1 rfl (Nat.le_of_ble_eq_true rfl) dX8_together_10 ⟨(Nat.le_of_ble_eq_true rfl), (Nat.le_of_ble_eq_true rfl)⟩) rfl rfl (fun v_10 S_9 H locs h hp => ?_)
    refine lv_if_ne (tgt := 19) hx hb dX8_together_13 (by decide) (fun c_11 => ?_) (fun c_11 => ?_)
    · replace h := h.1 c_11
      refine lv_iload_n hx hb dX8_together_19 rfl (q_at hl 1 rfl) ?_
      refine lv_iload_n hx hb dX8_together_20 rfl (q_at hl 2 rfl) ?_
      refine lv_icmp_ne (tgt := 27) hx hb dX8_together_21 (by decide) (fun c_12 => ?_) (fun c_12 => ?_)
      · replace h := h.1 c_12
        refine lv_iconst (v := 0) hx hb dX8_together_27 (by decide) ?_
        refine q_istn (lv' := [(3, .int (0 : Int32)), (0, .ref a0), (1, .int x1), (2, .int x2)]) hx hb dX8_together_28 rfl hl (by decide) rfl (fun ls hl => ?_)
        refine lv_iconst (v := 0) hx hb dX8_together_29 (by decide) ?_
        refine q_ist (lv' := [(4, .int (0 : Int32)), (3, .int (0 : Int32)), (0, .ref a0), (1, .int x1), (2, .int x2)]) hx hb dX8_together_30 hl (by decide) rfl (fun ls hl => ?_)
        exact j32 q_fuel a0 x1 x2 (0 : Int32) (0 : Int32) _ _ _ _ h hp (q_sub hl [2, 3, 4, 1, 0] rfl)
      · replace h := h.2 c_12
        refine lv_bipush (v := (-103)) hx hb dX8_together_24 (by decide) ?_
        exact q_iret C hp hr h dX8_together_26
    · replace h := h.2 c_11
      refine lv_bipush (v := (-101)) hx hb dX8_together_16 (by decide) ?_
      exact q_iret C hp hr h dX8_together_18
theorem kX8_count_7 : Cond.fieldLink RX8 7 (TX8 2).1 (TX8 2).2.1 (TX8 2).2.2.1 ∈ wsX8_count := by decide +kernel
theorem kX8_count_25 : Cond.fieldLink RX8 25 (TX8 7).1 (TX8 7).2.1 (TX8 7).2.2.1 ∈ wsX8_count := by decide +kernel
theorem kX8_count_42 : Cond.fieldLink RX8 42 (TX8 12).1 (TX8 12).2.1 (TX8 12).2.2.1 ∈ wsX8_count := by decide +kernel
theorem kX8_count_105 : Cond.fieldLink RX8 105 (TX8 0).1 (TX8 0).2.1 (TX8 0).2.2.1 ∈ wsX8_count := by decide +kernel
theorem kX8_count_112 : Cond.fieldLink RX8 112 (TX8 1).1 (TX8 1).2.1 (TX8 1).2.2.1 ∈ wsX8_count := by decide +kernel
theorem iX8_count_X8 : ∀ w ∈ u_ws RX8 TX8 36, w ∈ wsX8_count := by decide +kernel
set_option maxHeartbeats 4000000 in
set_option maxRecDepth 100000 in
theorem RX8_count (l : Launch) (D : va_G) (g : q_A) (S : q_S) (a0 : Nat) (x1 : Int32) (Q : Int32 → q_S → Prop) (h : wX8_count a0 x1 Q S) : q_Mi l yX8_count wsX8_count rmX8_count D g [.ref a0, .int x1] S Q := by
  refine q_Mi.of (cc := cX8_count) (nL := 4) (rt := .int) (by decide +kernel) rfl (Nat.le_of_ble_eq_true rfl) rfl ?_
  intro p e s m args below meth c ls A C hr hnm hp hl
  have C : q_X p s m args meth c cX8_count 4 RX8 wsX8_count D g A := C
  have hx := C.1
  have hb := C.2.1
  have hl : q_l ls 4 [(0, .ref a0), (1, .int x1)] := hl
  have j140 : ∀ (k118 : Nat → Int32 → Int32 → q_S → Prop) (ih118 : ∀ (a0 : Nat) (x2 : Int32) (x3 : Int32) (S : q_S) (H : Heap) (locs : List Loc) (ls : Array Slot), k118 a0 x2 x3 S → q_P D g A s.heap S H locs → q_l ls 4 [(0, .ref a0), (2, .int x2), (3, .int x3)] → W p l e rmX8_count s m args below meth c H locs 0 0 (MQ below (va_Qi Q (q_B D g A) A) args s rmX8_count.cells rmX8_count.slots A) (F0 m 118 ls [])) (a0 : Nat) (x3 : Int32) (y0 : Int32) (y1 : Int32) (S : q_S) (H : Heap) (locs : List Loc) (ls : Array Slot), wX8_count_b140 Q k118 a0 x3 y0 y1 S → q_P D g A s.heap S H locs → q_l ls 4 [(0, .ref a0), (3, .int x3)] → W p l e rmX8_count s m args below meth c H locs 0 0 (MQ below (va_Qi Q (q_B D g A) A) args s rmX8_count.cells rmX8_count.slots A) (F0 m 140 ls [.int y1, .int y0]) := by
    intro k118 ih118 a0 x3 y0 y1 S H locs ls h hp hl
    unfold wX8_count_b140 at h
    refine lv_iadd hx hb dX8_count_140 ?_
    refine q_istn (lv' := [(2, .int (y0 + y1)), (0, .ref a0), (3, .int x3)]) hx hb dX8_count_141 rfl hl (by decide) rfl (fun ls hl => ?_)
    refine q_inc (x := x3) (v := (x3 + (1 : Int32))) (lv' := [(3, .int (x3 + (1 : Int32))), (2, .int (y0 + y1)), (0, .ref a0)]) hx hb dX8_count_142 hl (k := 2) rfl rfl (by decide) rfl (fun ls hl => ?_)
    refine lv_goto (tgt := 118) hx hb dX8_count_145 (by decide) ?_
    exact ih118 a0 (y0 + y1) (x3 + (1 : Int32)) _ _ _ _ h hp (q_sub hl [2, 1, 0] rfl)
  have j118 : ∀ (n : Nat), ∀ (a0 : Nat) (x2 : Int32) (x3 : Int32) (S : q_S) (H : Heap) (locs : List Loc) (ls : Array Slot), lX8_count_b118 Q n a0 x2 x3 S → q_P D g A s.heap S H locs → q_l ls 4 [(0, .ref a0), (2, .int x2), (3, .int x3)] → W p l e rmX8_count s m args below meth c H locs 0 0 (MQ below (va_Qi Q (q_B D g A) A) args s rmX8_count.cells rmX8_count.slots A) (F0 m 118 ls []) := by
    intro n
    induction n with
    | zero => intro a0 x2 x3 S H locs ls h; exact absurd h (fun h => h)
    | succ n ih118 =>
      intro a0 x2 x3 S H locs ls h hp hl
      have h : wX8_count_b118 Q (lX8_count_b118 Q n) a0 x2 x3 S := h
      unfold wX8_count_b118 at h
      refine lv_iload_n hx hb dX8_count_118 rfl (q_at hl 2 rfl) ?_
      refine lv_sipush (v := 200) hx hb dX8_count_119 (by decide) ?_
      refine lv_icmp_ge (tgt := 148) hx hb dX8_count_122 (by decide) (fun c_1 => ?_) (fun c_1 => ?_)
      · replace h := h.1 c_1
        refine lv_iload_n hx hb dX8_count_148 rfl (q_at hl 1 rfl) ?_
        exact q_iret C hp hr h dX8_count_149
      · replace h := h.2 c_1
        refine lv_iload_n hx hb dX8_count_125 rfl (q_at hl 1 rfl) ?_
        refine lv_aload_n hx hb dX8_count_126 rfl (q_at hl 0 rfl) ?_
        refine q_rGR C hp h rfl iX8_count_X8 (by decide) kX8_count_25 dX8_count_127 (fun r_2 h => ?_)
        refine lv_iload_n hx hb dX8_count_130 rfl (q_at hl 2 rfl) ?_
        refine q_rLZ C hp h dX8_count_131 (fun v_3 h => ?_)
        refine lv_if_eq (tgt := 139) hx hb dX8_count_132 (by decide) (fun c_4 => ?_) (fun c_4 => ?_)
        · replace h := h.1 c_4
          refine lv_iconst (v := 0) hx hb dX8_count_139 (by decide) ?_
          exact j140 (lX8_count_b118 Q n) ih118 a0 x3 x2 (0 : Int32) _ _ _ _ h hp (q_sub hl [0, 2] rfl)
        · replace h := h.2 c_4
          refine lv_iconst (v := 1) hx hb dX8_count_135 (by decide) ?_
          refine lv_goto (tgt := 140) hx hb dX8_count_136 (by decide) ?_
          exact j140 (lX8_count_b118 Q n) ih118 a0 x3 x2 (1 : Int32) _ _ _ _ h hp (q_sub hl [0, 2] rfl)
  have j99 : ∀ (k78 : Nat → Int32 → Int32 → q_S → Prop) (ih78 : ∀ (a0 : Nat) (x2 : Int32) (x3 : Int32) (S : q_S) (H : Heap) (locs : List Loc) (ls : Array Slot), k78 a0 x2 x3 S → q_P D g A s.heap S H locs → q_l ls 4 [(0, .ref a0), (2, .int x2), (3, .int x3)] → W p l e rmX8_count s m args below meth c H locs 0 0 (MQ below (va_Qi Q (q_B D g A) A) args s rmX8_count.cells rmX8_count.slots A) (F0 m 78 ls [])) (a0 : Nat) (x3 : Int32) (y0 : Int32) (y1 : Int32) (S : q_S) (H : Heap) (locs : List Loc) (ls : Array Slot), wX8_count_b99 Q k78 a0 x3 y0 y1 S → q_P D g A s.heap S H locs → q_l ls 4 [(0, .ref a0), (3, .int x3)] → W p l e rmX8_count s m args below meth c H locs 0 0 (MQ below (va_Qi Q (q_B D g A) A) args s rmX8_count.cells rmX8_count.slots A) (F0 m 99 ls [.int y1, .int y0]) := by
    intro k78 ih78 a0 x3 y0 y1 S H locs ls h hp hl
    unfold wX8_count_b99 at h
    refine lv_iadd hx hb dX8_count_99 ?_
    refine q_istn (lv' := [(2, .int (y0 + y1)), (0, .ref a0), (3, .int x3)]) hx hb dX8_count_100 rfl hl (by decide) rfl (fun ls hl => ?_)
    refine q_inc (x := x3) (v := (x3 + (1 : Int32))) (lv' := [(3, .int (x3 + (1 : Int32))), (2, .int (y0 + y1)), (0, .ref a0)]) hx hb dX8_count_101 hl (k := 2) rfl rfl (by decide) rfl (fun ls hl => ?_)
    refine lv_goto (tgt := 78) hx hb dX8_count_104 (by decide) ?_
    exact ih78 a0 (y0 + y1) (x3 + (1 : Int32)) _ _ _ _ h hp (q_sub hl [2, 1, 0] rfl)
  have j78 : ∀ (n : Nat), ∀ (a0 : Nat) (x2 : Int32) (x3 : Int32) (S : q_S) (H : Heap) (locs : List Loc) (ls : Array Slot), lX8_count_b78 Q n a0 x2 x3 S → q_P D g A s.heap S H locs → q_l ls 4 [(0, .ref a0), (2, .int x2), (3, .int x3)] → W p l e rmX8_count s m args below meth c H locs 0 0 (MQ below (va_Qi Q (q_B D g A) A) args s rmX8_count.cells rmX8_count.slots A) (F0 m 78 ls []) := by
    intro n
    induction n with
    | zero => intro a0 x2 x3 S H locs ls h; exact absurd h (fun h => h)
    | succ n ih78 =>
      intro a0 x2 x3 S H locs ls h hp hl
      have h : wX8_count_b78 Q (lX8_count_b78 Q n) a0 x2 x3 S := h
      unfold wX8_count_b78 at h
      refine lv_iload_n hx hb dX8_count_78 rfl (q_at hl 2 rfl) ?_
      refine lv_bipush (v := 6) hx hb dX8_count_79 (by decide) ?_
      refine lv_icmp_ge (tgt := 107) hx hb dX8_count_81 (by decide) (fun c_5 => ?_) (fun c_5 => ?_)
      · replace h := h.1 c_5
        refine lv_iload_n hx hb dX8_count_107 rfl (q_at hl 1 rfl) ?_
        exact q_iret C hp hr h dX8_count_108
      · replace h := h.2 c_5
        refine lv_iload_n hx hb dX8_count_84 rfl (q_at hl 1 rfl) ?_
        refine lv_aload_n hx hb dX8_count_85 rfl (q_at hl 0 rfl) ?_
        refine q_rGR C hp h rfl iX8_count_X8 (by decide) kX8_count_42 dX8_count_86 (fun r_6 h => ?_)
        refine lv_iload_n hx hb dX8_count_89 rfl (q_at hl 2 rfl) ?_
        refine q_rLZ C hp h dX8_count_90 (fun v_7 h => ?_)
        refine lv_if_eq (tgt := 98) hx hb dX8_count_91 (by decide) (fun c_8 => ?_) (fun c_8 => ?_)
        · replace h := h.1 c_8
          refine lv_iconst (v := 0) hx hb dX8_count_98 (by decide) ?_
          exact j99 (lX8_count_b78 Q n) ih78 a0 x3 x2 (0 : Int32) _ _ _ _ h hp (q_sub hl [0, 2] rfl)
        · replace h := h.2 c_8
          refine lv_iconst (v := 1) hx hb dX8_count_94 (by decide) ?_
          refine lv_goto (tgt := 99) hx hb dX8_count_95 (by decide) ?_
          exact j99 (lX8_count_b78 Q n) ih78 a0 x3 x2 (1 : Int32) _ _ _ _ h hp (q_sub hl [0, 2] rfl)
  have j52 : ∀ (n : Nat), ∀ (a0 : Nat) (x2 : Int32) (x3 : Int32) (S : q_S) (H : Heap) (locs : List Loc) (ls : Array Slot), lX8_count_b52 Q n a0 x2 x3 S → q_P D g A s.heap S H locs → q_l ls 4 [(0, .ref a0), (2, .int x2), (3, .int x3)] → W p l e rmX8_count s m args below meth c H locs 0 0 (MQ below (va_Qi Q (q_B D g A) A) args s rmX8_count.cells rmX8_count.slots A) (F0 m 52 ls []) := by
    intro n
    induction n with
    | zero => intro a0 x2 x3 S H locs ls h; exact absurd h (fun h => h)
    | succ n ih52 =>
      intro a0 x2 x3 S H locs ls h hp hl
      have h : wX8_count_b52 Q (lX8_count_b52 Q n) a0 x2 x3 S := h
      unfold wX8_count_b52 at h
      refine lv_iload_n hx hb dX8_count_52 rfl (q_at hl 2 rfl) ?_
      refine lv_sipush (v := 240) hx hb dX8_count_53 (by decide) ?_
      refine lv_icmp_ge (tgt := 74) hx hb dX8_count_56 (by decide) (fun c_9 => ?_) (fun c_9 => ?_)
      · replace h := h.1 c_9
        refine lv_iload_n hx hb dX8_count_74 rfl (q_at hl 1 rfl) ?_
        exact q_iret C hp hr h dX8_count_75
      · replace h := h.2 c_9
        refine lv_iload_n hx hb dX8_count_59 rfl (q_at hl 1 rfl) ?_
        refine lv_aload_n hx hb dX8_count_60 rfl (q_at hl 0 rfl) ?_
        refine q_rGR C hp h rfl iX8_count_X8 (by decide) kX8_count_7 dX8_count_61 (fun r_10 h => ?_)
        refine lv_iload_n hx hb dX8_count_64 rfl (q_at hl 2 rfl) ?_
        refine q_rLI C hp h dX8_count_65 (fun v_11 h => ?_)
        refine lv_iadd hx hb dX8_count_66 ?_
        refine q_istn (lv' := [(2, .int (x2 + v_11)), (0, .ref a0), (3, .int x3)]) hx hb dX8_count_67 rfl hl (by decide) rfl (fun ls hl => ?_)
        refine q_inc (x := x3) (v := (x3 + (1 : Int32))) (lv' := [(3, .int (x3 + (1 : Int32))), (2, .int (x2 + v_11)), (0, .ref a0)]) hx hb dX8_count_68 hl (k := 2) rfl rfl (by decide) rfl (fun ls hl => ?_)
        refine lv_goto (tgt := 52) hx hb dX8_count_71 (by decide) ?_
        exact ih52 a0 (x2 + v_11) (x3 + (1 : Int32)) _ _ _ _ h hp (q_sub hl [2, 1, 0] rfl)
  unfold wX8_count at h
  replace h := h.2
  refine lv_iconst (v := 0) hx hb dX8_count_0 (by decide) ?_
  refine q_istn (lv' := [(2, .int (0 : Int32)), (0, .ref a0), (1, .int x1)]) hx hb dX8_count_1 rfl hl (by decide) rfl (fun ls hl => ?_)
  refine lv_iload_n hx hb dX8_count_2 rfl (q_at hl 2 rfl) ?_
  by_cases hout : (x1).toInt < 0 ∨ 5 < (x1).toInt
  · replace h := h.1 hout
    refine lv_tableOut (tgt := 150) hx hb dX8_count_3 hout (by decide) ?_
    refine lv_bipush (v := (-102)) hx hb dX8_count_150 (by decide) ?_
    exact q_iret C hp hr h dX8_count_152
  · have hc : (x1).toInt = 0 ∨ (x1).toInt = 1 ∨ (x1).toInt = 2 ∨ (x1).toInt = 3 ∨ (x1).toInt = 4 ∨ (x1).toInt = 5 := by omega
    rcases hc with hc | hc | hc | hc | hc | hc
    · replace h := h.2.1 hc
      refine lv_tableIn (off := 37) (tgt := 40) hx hb dX8_count_3 (by omega) (by omega) (by rw [hc]; rfl) (by decide) ?_
      refine lv_aload_n hx hb dX8_count_40 rfl (q_at hl 1 rfl) ?_
      refine q_rGI C hp h rfl iX8_count_X8 (by decide) kX8_count_105 dX8_count_41 (fun v_12 h => ?_)
      exact q_iret C hp hr h dX8_count_44
    · replace h := h.2.2.1 hc
      refine lv_tableIn (off := 42) (tgt := 45) hx hb dX8_count_3 (by omega) (by omega) (by rw [hc]; rfl) (by decide) ?_
      refine lv_aload_n hx hb dX8_count_45 rfl (q_at hl 1 rfl) ?_
      refine q_rGI C hp h rfl iX8_count_X8 (by decide) kX8_count_112 dX8_count_46 (fun v_13 h => ?_)
      exact q_iret C hp hr h dX8_count_49
    · replace h := h.2.2.2.1 hc
      refine lv_tableIn (off := 47) (tgt := 50) hx hb dX8_count_3 (by omega) (by omega) (by rw [hc]; rfl) (by decide) ?_
      refine lv_iconst (v := 0) hx hb dX8_count_50 (by decide) ?_
      refine q_istn (lv' := [(3, .int (0 : Int32)), (2, .int (0 : Int32)), (0, .ref a0), (1, .int x1)]) hx hb dX8_count_51 rfl hl (by decide) rfl (fun ls hl => ?_)
      exact j52 q_fuel a0 (0 : Int32) (0 : Int32) _ _ _ _ h hp (q_sub hl [2, 1, 0] rfl)
    · replace h := h.2.2.2.2.1 hc
      refine lv_tableIn (off := 73) (tgt := 76) hx hb dX8_count_3 (by omega) (by omega) (by rw [hc]; rfl) (by decide) ?_
      refine lv_iconst (v := 0) hx hb dX8_count_76 (by decide) ?_
      refine q_istn (lv' := [(3, .int (0 : Int32)), (2, .int (0 : Int32)), (0, .ref a0), (1, .int x1)]) hx hb dX8_count_77 rfl hl (by decide) rfl (fun ls hl => ?_)
      exact j78 q_fuel a0 (0 : Int32) (0 : Int32) _ _ _ _ h hp (q_sub hl [2, 1, 0] rfl)
    · replace h := h.2.2.2.2.2.1 hc
      refine lv_tableIn (off := 106) (tgt := 109) hx hb dX8_count_3 (by omega) (by omega) (by rw [hc]; rfl) (by decide) ?_
      refine lv_aload_n hx hb dX8_count_109 rfl (q_at hl 1 rfl) ?_
      refine lv_bipush (v := 6) hx hb dX8_count_110 (by decide) ?_
      refine q_finI0 C hp (q_runV (As := [.int (6 : Int32)]) (rest := []) C hp (RX8_lastNumber l D g _ a0 (6 : Int32) _ h _) (cwV 1 C.2.2.2.2.1 gX8_count_X8_lastNumber rfl rfl rfl (by decide +kernel) ⟨(Nat.le_of_ble_eq_true rfl), (Nat.le_of_ble_eq_true rfl)⟩) h.1 rfl rfl hl.1.1 rfl (Nat.le_of_ble_eq_true rfl) dX8_count_112 ⟨(Nat.le_of_ble_eq_true rfl), (Nat.le_of_ble_eq_true rfl)⟩) rfl rfl (fun v_15 S_14 H locs h hp => ?_)
      exact q_iret C hp hr h dX8_count_115
    · replace h := h.2.2.2.2.2.2 hc
      refine lv_tableIn (off := 113) (tgt := 116) hx hb dX8_count_3 (by omega) (by omega) (by rw [hc]; rfl) (by decide) ?_
      refine lv_iconst (v := 0) hx hb dX8_count_116 (by decide) ?_
      refine q_istn (lv' := [(3, .int (0 : Int32)), (2, .int (0 : Int32)), (0, .ref a0), (1, .int x1)]) hx hb dX8_count_117 rfl hl (by decide) rfl (fun ls hl => ?_)
      exact j118 q_fuel a0 (0 : Int32) (0 : Int32) _ _ _ _ h hp (q_sub hl [2, 1, 0] rfl)
