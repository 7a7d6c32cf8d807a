/-! the rows -/
theorem d_law_0 : decode code 0 = .ok (.new 7, 3) := lw_dk (P := lwP_0) (e := ((0, 3), .new 7, (0, 0), (.null, []), none)) lw_dc_0 (k := 0) rfl
theorem d_law_3 : decode code 3 = .ok (.dup, 1) := lw_dk (P := lwP_0) (e := ((3, 1), .dup, (0, 0), (.null, []), none)) lw_dc_0 (k := 1) rfl
theorem d_law_4 : decode code 4 = .ok (.invokespecial 9, 3) := lw_dk (P := lwP_0) (e := ((4, 3), .invokespecial 9, (0, 0), (.null, []), none)) lw_dc_0 (k := 2) rfl
theorem d_law_7 : decode code 7 = .ok (.astore_n 1, 1) := lw_dk (P := lwP_0) (e := ((7, 1), .astore_n 1, (0, 0), (.null, []), none)) lw_dc_0 (k := 3) rfl
theorem d_law_8 : decode code 8 = .ok (.new 10, 3) := lw_dk (P := lwP_0) (e := ((8, 3), .new 10, (0, 0), (.null, []), none)) lw_dc_0 (k := 4) rfl
theorem d_law_11 : decode code 11 = .ok (.dup, 1) := lw_dk (P := lwP_0) (e := ((11, 1), .dup, (0, 0), (.null, []), none)) lw_dc_0 (k := 5) rfl
theorem d_law_12 : decode code 12 = .ok (.invokespecial 12, 3) := lw_dk (P := lwP_0) (e := ((12, 3), .invokespecial 12, (0, 0), (.null, []), none)) lw_dc_0 (k := 6) rfl
theorem d_law_15 : decode code 15 = .ok (.astore_n 2, 1) := lw_dk (P := lwP_0) (e := ((15, 1), .astore_n 2, (0, 0), (.null, []), none)) lw_dc_0 (k := 7) rfl
theorem d_law_16 : decode code 16 = .ok (.iconst 0, 1) := lw_dk (P := lwP_0) (e := ((16, 1), .iconst 0, (0, 0), (.null, []), none)) lw_dc_0 (k := 8) rfl
theorem d_law_17 : decode code 17 = .ok (.istore_n 3, 1) := lw_dk (P := lwP_0) (e := ((17, 1), .istore_n 3, (0, 0), (.null, []), none)) lw_dc_0 (k := 9) rfl
theorem d_law_18 : decode code 18 = .ok (.iload_n 3, 1) := lw_dk (P := lwP_0) (e := ((18, 1), .iload_n 3, (0, 0), (.null, []), none)) lw_dc_0 (k := 10) rfl
theorem d_law_19 : decode code 19 = .ok (.aload_n 0, 1) := lw_dk (P := lwP_0) (e := ((19, 1), .aload_n 0, (0, 0), (.null, []), none)) lw_dc_0 (k := 11) rfl
theorem d_law_20 : decode code 20 = .ok (.arraylength, 1) := lw_dk (P := lwP_0) (e := ((20, 1), .arraylength, (0, 0), (.null, []), none)) lw_dc_0 (k := 12) rfl
theorem d_law_21 : decode code 21 = .ok (.bipush 6, 2) := lw_dk (P := lwP_0) (e := ((21, 2), .bipush 6, (0, 0), (.null, []), none)) lw_dc_0 (k := 13) rfl
theorem d_law_23 : decode code 23 = .ok (.isub, 1) := lw_dk (P := lwP_0) (e := ((23, 1), .isub, (0, 0), (.null, []), none)) lw_dc_0 (k := 14) rfl
theorem d_law_24 : decode code 24 = .ok (.if_icmp .gt 1028, 3) := lw_dk (P := lwP_0) (e := ((24, 3), .if_icmp .gt 1028, (0, 0), (.null, []), none)) lw_dc_0 (k := 15) rfl
theorem d_law_27 : decode code 27 = .ok (.aload_n 0, 1) := lw_dk (P := lwP_0) (e := ((27, 1), .aload_n 0, (0, 0), (.null, []), none)) lw_dc_0 (k := 16) rfl
theorem d_law_28 : decode code 28 = .ok (.iload_n 3, 1) := lw_dk (P := lwP_0) (e := ((28, 1), .iload_n 3, (0, 0), (.null, []), none)) lw_dc_0 (k := 17) rfl
theorem d_law_29 : decode code 29 = .ok (.iaload, 1) := lw_dk (P := lwP_0) (e := ((29, 1), .iaload, (0, 0), (.null, []), none)) lw_dc_0 (k := 18) rfl
theorem d_law_30 : decode code 30 = .ok (.bipush 63, 2) := lw_dk (P := lwP_0) (e := ((30, 2), .bipush 63, (0, 0), (.null, []), none)) lw_dc_0 (k := 19) rfl
theorem d_law_32 : decode code 32 = .ok (.iand, 1) := lw_dk (P := lwP_0) (e := ((32, 1), .iand, (0, 0), (.null, []), none)) lw_dc_0 (k := 20) rfl
theorem d_law_33 : decode code 33 = .ok (.tableswitch 1013 0 35 #[159, 222, 245, 258, 271, 304, 337, 360, 373, 406, 419, 442, 455, 468, 481, 494, 507, 530, 553, 576, 589, 602, 615, 628, 651, 684, 707, 730, 753, 786, 845, 858, 901, 944, 967, 990], 159) := lw_dk (P := lwP_0) (e := ((33, 159), .tableswitch 1013 0 35 #[159, 222, 245, 258, 271, 304, 337, 360, 373, 406, 419, 442, 455, 468, 481, 494, 507, 530, 553, 576, 589, 602, 615, 628, 651, 684, 707, 730, 753, 786, 845, 858, 901, 944, 967, 990], (0, 0), (.null, []), none)) lw_dc_0 (k := 21) rfl
theorem d_law_192 : decode code 192 = .ok (.aload_n 1, 1) := lw_dk (P := lwP_0) (e := ((192, 1), .aload_n 1, (0, 0), (.null, []), none)) lw_dc_0 (k := 22) rfl
theorem d_law_193 : decode code 193 = .ok (.aload_n 0, 1) := lw_dk (P := lwP_0) (e := ((193, 1), .aload_n 0, (0, 0), (.null, []), none)) lw_dc_0 (k := 23) rfl
theorem d_law_194 : decode code 194 = .ok (.iload_n 3, 1) := lw_dk (P := lwP_0) (e := ((194, 1), .iload_n 3, (0, 0), (.null, []), none)) lw_dc_0 (k := 24) rfl
theorem d_law_195 : decode code 195 = .ok (.iconst 1, 1) := lw_dk (P := lwP_0) (e := ((195, 1), .iconst 1, (0, 0), (.null, []), none)) lw_dc_0 (k := 25) rfl
theorem d_law_196 : decode code 196 = .ok (.iadd, 1) := lw_dk (P := lwP_0) (e := ((196, 1), .iadd, (0, 0), (.null, []), none)) lw_dc_0 (k := 26) rfl
theorem d_law_197 : decode code 197 = .ok (.iaload, 1) := lw_dk (P := lwP_0) (e := ((197, 1), .iaload, (0, 0), (.null, []), none)) lw_dc_0 (k := 27) rfl
theorem d_law_198 : decode code 198 = .ok (.aload_n 0, 1) := lw_dk (P := lwP_0) (e := ((198, 1), .aload_n 0, (0, 0), (.null, []), none)) lw_dc_0 (k := 28) rfl
theorem d_law_199 : decode code 199 = .ok (.iload_n 3, 1) := lw_dk (P := lwP_0) (e := ((199, 1), .iload_n 3, (0, 0), (.null, []), none)) lw_dc_0 (k := 29) rfl
theorem d_law_200 : decode code 200 = .ok (.iconst 2, 1) := lw_dk (P := lwP_0) (e := ((200, 1), .iconst 2, (0, 0), (.null, []), none)) lw_dc_0 (k := 30) rfl
theorem d_law_201 : decode code 201 = .ok (.iadd, 1) := lw_dk (P := lwP_0) (e := ((201, 1), .iadd, (0, 0), (.null, []), none)) lw_dc_0 (k := 31) rfl
theorem d_law_202 : decode code 202 = .ok (.iaload, 1) := lw_dk (P := lwP_0) (e := ((202, 1), .iaload, (0, 0), (.null, []), none)) lw_dc_0 (k := 32) rfl
theorem d_law_203 : decode code 203 = .ok (.aload_n 0, 1) := lw_dk (P := lwP_0) (e := ((203, 1), .aload_n 0, (0, 0), (.null, []), none)) lw_dc_0 (k := 33) rfl
theorem d_law_204 : decode code 204 = .ok (.iload_n 3, 1) := lw_dk (P := lwP_0) (e := ((204, 1), .iload_n 3, (0, 0), (.null, []), none)) lw_dc_0 (k := 34) rfl
theorem d_law_205 : decode code 205 = .ok (.iconst 3, 1) := lw_dk (P := lwP_0) (e := ((205, 1), .iconst 3, (0, 0), (.null, []), none)) lw_dc_0 (k := 35) rfl
theorem d_law_206 : decode code 206 = .ok (.iadd, 1) := lw_dk (P := lwP_0) (e := ((206, 1), .iadd, (0, 0), (.null, []), none)) lw_dc_0 (k := 36) rfl
theorem d_law_207 : decode code 207 = .ok (.iaload, 1) := lw_dk (P := lwP_0) (e := ((207, 1), .iaload, (0, 0), (.null, []), none)) lw_dc_0 (k := 37) rfl
theorem d_law_208 : decode code 208 = .ok (.aload_n 0, 1) := lw_dk (P := lwP_0) (e := ((208, 1), .aload_n 0, (0, 0), (.null, []), none)) lw_dc_0 (k := 38) rfl
theorem d_law_209 : decode code 209 = .ok (.iload_n 3, 1) := lw_dk (P := lwP_0) (e := ((209, 1), .iload_n 3, (0, 0), (.null, []), none)) lw_dc_0 (k := 39) rfl
theorem d_law_210 : decode code 210 = .ok (.iconst 4, 1) := lw_dk (P := lwP_0) (e := ((210, 1), .iconst 4, (0, 0), (.null, []), none)) lw_dc_0 (k := 40) rfl
theorem d_law_211 : decode code 211 = .ok (.iadd, 1) := lw_dk (P := lwP_0) (e := ((211, 1), .iadd, (0, 0), (.null, []), none)) lw_dc_0 (k := 41) rfl
theorem d_law_212 : decode code 212 = .ok (.iaload, 1) := lw_dk (P := lwP_0) (e := ((212, 1), .iaload, (0, 0), (.null, []), none)) lw_dc_0 (k := 42) rfl
theorem d_law_213 : decode code 213 = .ok (.aload_n 0, 1) := lw_dk (P := lwP_0) (e := ((213, 1), .aload_n 0, (0, 0), (.null, []), none)) lw_dc_0 (k := 43) rfl
theorem d_law_214 : decode code 214 = .ok (.iload_n 3, 1) := lw_dk (P := lwP_0) (e := ((214, 1), .iload_n 3, (0, 0), (.null, []), none)) lw_dc_0 (k := 44) rfl
theorem d_law_215 : decode code 215 = .ok (.iconst 5, 1) := lw_dk (P := lwP_0) (e := ((215, 1), .iconst 5, (0, 0), (.null, []), none)) lw_dc_0 (k := 45) rfl
theorem d_law_216 : decode code 216 = .ok (.iadd, 1) := lw_dk (P := lwP_0) (e := ((216, 1), .iadd, (0, 0), (.null, []), none)) lw_dc_0 (k := 46) rfl
theorem d_law_217 : decode code 217 = .ok (.iaload, 1) := lw_dk (P := lwP_0) (e := ((217, 1), .iaload, (0, 0), (.null, []), none)) lw_dc_0 (k := 47) rfl
theorem d_law_218 : decode code 218 = .ok (.invokevirtual 13, 3) := lw_dk (P := lwP_0) (e := ((218, 3), .invokevirtual 13, (0, 0), (.null, []), none)) lw_dc_0 (k := 48) rfl
theorem d_law_221 : decode code 221 = .ok (.aload_n 2, 1) := lw_dk (P := lwP_0) (e := ((221, 1), .aload_n 2, (0, 0), (.null, []), none)) lw_dc_0 (k := 49) rfl
theorem d_law_222 : decode code 222 = .ok (.aload_n 0, 1) := lw_dk (P := lwP_1) (e := ((222, 1), .aload_n 0, (0, 0), (.null, []), none)) lw_dc_1 (k := 0) rfl
theorem d_law_223 : decode code 223 = .ok (.iload_n 3, 1) := lw_dk (P := lwP_1) (e := ((223, 1), .iload_n 3, (0, 0), (.null, []), none)) lw_dc_1 (k := 1) rfl
theorem d_law_224 : decode code 224 = .ok (.iconst 1, 1) := lw_dk (P := lwP_1) (e := ((224, 1), .iconst 1, (0, 0), (.null, []), none)) lw_dc_1 (k := 2) rfl
theorem d_law_225 : decode code 225 = .ok (.iadd, 1) := lw_dk (P := lwP_1) (e := ((225, 1), .iadd, (0, 0), (.null, []), none)) lw_dc_1 (k := 3) rfl
theorem d_law_226 : decode code 226 = .ok (.iaload, 1) := lw_dk (P := lwP_1) (e := ((226, 1), .iaload, (0, 0), (.null, []), none)) lw_dc_1 (k := 4) rfl
theorem d_law_227 : decode code 227 = .ok (.aload_n 0, 1) := lw_dk (P := lwP_1) (e := ((227, 1), .aload_n 0, (0, 0), (.null, []), none)) lw_dc_1 (k := 5) rfl
theorem d_law_228 : decode code 228 = .ok (.iload_n 3, 1) := lw_dk (P := lwP_1) (e := ((228, 1), .iload_n 3, (0, 0), (.null, []), none)) lw_dc_1 (k := 6) rfl
theorem d_law_229 : decode code 229 = .ok (.iconst 2, 1) := lw_dk (P := lwP_1) (e := ((229, 1), .iconst 2, (0, 0), (.null, []), none)) lw_dc_1 (k := 7) rfl
theorem d_law_230 : decode code 230 = .ok (.iadd, 1) := lw_dk (P := lwP_1) (e := ((230, 1), .iadd, (0, 0), (.null, []), none)) lw_dc_1 (k := 8) rfl
theorem d_law_231 : decode code 231 = .ok (.iaload, 1) := lw_dk (P := lwP_1) (e := ((231, 1), .iaload, (0, 0), (.null, []), none)) lw_dc_1 (k := 9) rfl
theorem d_law_232 : decode code 232 = .ok (.aload_n 0, 1) := lw_dk (P := lwP_1) (e := ((232, 1), .aload_n 0, (0, 0), (.null, []), none)) lw_dc_1 (k := 10) rfl
theorem d_law_233 : decode code 233 = .ok (.iload_n 3, 1) := lw_dk (P := lwP_1) (e := ((233, 1), .iload_n 3, (0, 0), (.null, []), none)) lw_dc_1 (k := 11) rfl
theorem d_law_234 : decode code 234 = .ok (.iconst 3, 1) := lw_dk (P := lwP_1) (e := ((234, 1), .iconst 3, (0, 0), (.null, []), none)) lw_dc_1 (k := 12) rfl
theorem d_law_235 : decode code 235 = .ok (.iadd, 1) := lw_dk (P := lwP_1) (e := ((235, 1), .iadd, (0, 0), (.null, []), none)) lw_dc_1 (k := 13) rfl
theorem d_law_236 : decode code 236 = .ok (.iaload, 1) := lw_dk (P := lwP_1) (e := ((236, 1), .iaload, (0, 0), (.null, []), none)) lw_dc_1 (k := 14) rfl
theorem d_law_237 : decode code 237 = .ok (.aload_n 0, 1) := lw_dk (P := lwP_1) (e := ((237, 1), .aload_n 0, (0, 0), (.null, []), none)) lw_dc_1 (k := 15) rfl
theorem d_law_238 : decode code 238 = .ok (.iload_n 3, 1) := lw_dk (P := lwP_1) (e := ((238, 1), .iload_n 3, (0, 0), (.null, []), none)) lw_dc_1 (k := 16) rfl
theorem d_law_239 : decode code 239 = .ok (.iconst 4, 1) := lw_dk (P := lwP_1) (e := ((239, 1), .iconst 4, (0, 0), (.null, []), none)) lw_dc_1 (k := 17) rfl
theorem d_law_240 : decode code 240 = .ok (.iadd, 1) := lw_dk (P := lwP_1) (e := ((240, 1), .iadd, (0, 0), (.null, []), none)) lw_dc_1 (k := 18) rfl
theorem d_law_241 : decode code 241 = .ok (.iaload, 1) := lw_dk (P := lwP_1) (e := ((241, 1), .iaload, (0, 0), (.null, []), none)) lw_dc_1 (k := 19) rfl
theorem d_law_242 : decode code 242 = .ok (.aload_n 0, 1) := lw_dk (P := lwP_1) (e := ((242, 1), .aload_n 0, (0, 0), (.null, []), none)) lw_dc_1 (k := 20) rfl
theorem d_law_243 : decode code 243 = .ok (.iload_n 3, 1) := lw_dk (P := lwP_1) (e := ((243, 1), .iload_n 3, (0, 0), (.null, []), none)) lw_dc_1 (k := 21) rfl
theorem d_law_244 : decode code 244 = .ok (.iconst 5, 1) := lw_dk (P := lwP_1) (e := ((244, 1), .iconst 5, (0, 0), (.null, []), none)) lw_dc_1 (k := 22) rfl
theorem d_law_245 : decode code 245 = .ok (.iadd, 1) := lw_dk (P := lwP_1) (e := ((245, 1), .iadd, (0, 0), (.null, []), none)) lw_dc_1 (k := 23) rfl
theorem d_law_246 : decode code 246 = .ok (.iaload, 1) := lw_dk (P := lwP_1) (e := ((246, 1), .iaload, (0, 0), (.null, []), none)) lw_dc_1 (k := 24) rfl
theorem d_law_247 : decode code 247 = .ok (.invokevirtual 17, 3) := lw_dk (P := lwP_1) (e := ((247, 3), .invokevirtual 17, (0, 0), (.null, []), none)) lw_dc_1 (k := 25) rfl
theorem d_law_250 : decode code 250 = .ok (.if_icmp .eq 796, 3) := lw_dk (P := lwP_1) (e := ((250, 3), .if_icmp .eq 796, (0, 0), (.null, []), none)) lw_dc_1 (k := 26) rfl
theorem d_law_253 : decode code 253 = .ok (.iconst 0, 1) := lw_dk (P := lwP_1) (e := ((253, 1), .iconst 0, (0, 0), (.null, []), none)) lw_dc_1 (k := 27) rfl
theorem d_law_254 : decode code 254 = .ok (.ireturn, 1) := lw_dk (P := lwP_1) (e := ((254, 1), .ireturn, (0, 0), (.null, []), none)) lw_dc_1 (k := 28) rfl
theorem d_law_255 : decode code 255 = .ok (.aload_n 1, 1) := lw_dk (P := lwP_1) (e := ((255, 1), .aload_n 1, (0, 0), (.null, []), none)) lw_dc_1 (k := 29) rfl
theorem d_law_256 : decode code 256 = .ok (.aload_n 0, 1) := lw_dk (P := lwP_1) (e := ((256, 1), .aload_n 0, (0, 0), (.null, []), none)) lw_dc_1 (k := 30) rfl
theorem d_law_257 : decode code 257 = .ok (.iload_n 3, 1) := lw_dk (P := lwP_1) (e := ((257, 1), .iload_n 3, (0, 0), (.null, []), none)) lw_dc_1 (k := 31) rfl
theorem d_law_258 : decode code 258 = .ok (.iconst 1, 1) := lw_dk (P := lwP_1) (e := ((258, 1), .iconst 1, (0, 0), (.null, []), none)) lw_dc_1 (k := 32) rfl
theorem d_law_259 : decode code 259 = .ok (.iadd, 1) := lw_dk (P := lwP_1) (e := ((259, 1), .iadd, (0, 0), (.null, []), none)) lw_dc_1 (k := 33) rfl
theorem d_law_260 : decode code 260 = .ok (.iaload, 1) := lw_dk (P := lwP_1) (e := ((260, 1), .iaload, (0, 0), (.null, []), none)) lw_dc_1 (k := 34) rfl
theorem d_law_261 : decode code 261 = .ok (.invokevirtual 18, 3) := lw_dk (P := lwP_1) (e := ((261, 3), .invokevirtual 18, (0, 0), (.null, []), none)) lw_dc_1 (k := 35) rfl
theorem d_law_264 : decode code 264 = .ok (.aload_n 2, 1) := lw_dk (P := lwP_1) (e := ((264, 1), .aload_n 2, (0, 0), (.null, []), none)) lw_dc_1 (k := 36) rfl
theorem d_law_265 : decode code 265 = .ok (.aload_n 0, 1) := lw_dk (P := lwP_1) (e := ((265, 1), .aload_n 0, (0, 0), (.null, []), none)) lw_dc_1 (k := 37) rfl
theorem d_law_266 : decode code 266 = .ok (.iload_n 3, 1) := lw_dk (P := lwP_1) (e := ((266, 1), .iload_n 3, (0, 0), (.null, []), none)) lw_dc_1 (k := 38) rfl
theorem d_law_267 : decode code 267 = .ok (.iconst 1, 1) := lw_dk (P := lwP_1) (e := ((267, 1), .iconst 1, (0, 0), (.null, []), none)) lw_dc_1 (k := 39) rfl
theorem d_law_268 : decode code 268 = .ok (.iadd, 1) := lw_dk (P := lwP_1) (e := ((268, 1), .iadd, (0, 0), (.null, []), none)) lw_dc_1 (k := 40) rfl
theorem d_law_269 : decode code 269 = .ok (.iaload, 1) := lw_dk (P := lwP_1) (e := ((269, 1), .iaload, (0, 0), (.null, []), none)) lw_dc_1 (k := 41) rfl
theorem d_law_270 : decode code 270 = .ok (.invokevirtual 22, 3) := lw_dk (P := lwP_1) (e := ((270, 3), .invokevirtual 22, (0, 0), (.null, []), none)) lw_dc_1 (k := 42) rfl
theorem d_law_273 : decode code 273 = .ok (.if_icmp .eq 773, 3) := lw_dk (P := lwP_1) (e := ((273, 3), .if_icmp .eq 773, (0, 0), (.null, []), none)) lw_dc_1 (k := 43) rfl
theorem d_law_276 : decode code 276 = .ok (.iconst 0, 1) := lw_dk (P := lwP_1) (e := ((276, 1), .iconst 0, (0, 0), (.null, []), none)) lw_dc_1 (k := 44) rfl
theorem d_law_277 : decode code 277 = .ok (.ireturn, 1) := lw_dk (P := lwP_1) (e := ((277, 1), .ireturn, (0, 0), (.null, []), none)) lw_dc_1 (k := 45) rfl
theorem d_law_278 : decode code 278 = .ok (.aload_n 1, 1) := lw_dk (P := lwP_1) (e := ((278, 1), .aload_n 1, (0, 0), (.null, []), none)) lw_dc_1 (k := 46) rfl
theorem d_law_279 : decode code 279 = .ok (.invokevirtual 23, 3) := lw_dk (P := lwP_1) (e := ((279, 3), .invokevirtual 23, (0, 0), (.null, []), none)) lw_dc_1 (k := 47) rfl
theorem d_law_282 : decode code 282 = .ok (.aload_n 2, 1) := lw_dk (P := lwP_1) (e := ((282, 1), .aload_n 2, (0, 0), (.null, []), none)) lw_dc_1 (k := 48) rfl
theorem d_law_283 : decode code 283 = .ok (.invokevirtual 27, 3) := lw_dk (P := lwP_1) (e := ((283, 3), .invokevirtual 27, (0, 0), (.null, []), none)) lw_dc_1 (k := 49) rfl
theorem d_law_286 : decode code 286 = .ok (.if_icmp .eq 760, 3) := lw_dk (P := lwP_2) (e := ((286, 3), .if_icmp .eq 760, (0, 0), (.null, []), none)) lw_dc_2 (k := 0) rfl
theorem d_law_289 : decode code 289 = .ok (.iconst 0, 1) := lw_dk (P := lwP_2) (e := ((289, 1), .iconst 0, (0, 0), (.null, []), none)) lw_dc_2 (k := 1) rfl
theorem d_law_290 : decode code 290 = .ok (.ireturn, 1) := lw_dk (P := lwP_2) (e := ((290, 1), .ireturn, (0, 0), (.null, []), none)) lw_dc_2 (k := 2) rfl
theorem d_law_291 : decode code 291 = .ok (.aload_n 1, 1) := lw_dk (P := lwP_2) (e := ((291, 1), .aload_n 1, (0, 0), (.null, []), none)) lw_dc_2 (k := 3) rfl
theorem d_law_292 : decode code 292 = .ok (.invokevirtual 28, 3) := lw_dk (P := lwP_2) (e := ((292, 3), .invokevirtual 28, (0, 0), (.null, []), none)) lw_dc_2 (k := 4) rfl
theorem d_law_295 : decode code 295 = .ok (.aload_n 2, 1) := lw_dk (P := lwP_2) (e := ((295, 1), .aload_n 2, (0, 0), (.null, []), none)) lw_dc_2 (k := 5) rfl
theorem d_law_296 : decode code 296 = .ok (.invokevirtual 31, 3) := lw_dk (P := lwP_2) (e := ((296, 3), .invokevirtual 31, (0, 0), (.null, []), none)) lw_dc_2 (k := 6) rfl
theorem d_law_299 : decode code 299 = .ok (.if_icmp .eq 747, 3) := lw_dk (P := lwP_2) (e := ((299, 3), .if_icmp .eq 747, (0, 0), (.null, []), none)) lw_dc_2 (k := 7) rfl
theorem d_law_302 : decode code 302 = .ok (.iconst 0, 1) := lw_dk (P := lwP_2) (e := ((302, 1), .iconst 0, (0, 0), (.null, []), none)) lw_dc_2 (k := 8) rfl
theorem d_law_303 : decode code 303 = .ok (.ireturn, 1) := lw_dk (P := lwP_2) (e := ((303, 1), .ireturn, (0, 0), (.null, []), none)) lw_dc_2 (k := 9) rfl
theorem d_law_304 : decode code 304 = .ok (.aload_n 1, 1) := lw_dk (P := lwP_2) (e := ((304, 1), .aload_n 1, (0, 0), (.null, []), none)) lw_dc_2 (k := 10) rfl
theorem d_law_305 : decode code 305 = .ok (.aload_n 0, 1) := lw_dk (P := lwP_2) (e := ((305, 1), .aload_n 0, (0, 0), (.null, []), none)) lw_dc_2 (k := 11) rfl
theorem d_law_306 : decode code 306 = .ok (.iload_n 3, 1) := lw_dk (P := lwP_2) (e := ((306, 1), .iload_n 3, (0, 0), (.null, []), none)) lw_dc_2 (k := 12) rfl
theorem d_law_307 : decode code 307 = .ok (.iconst 1, 1) := lw_dk (P := lwP_2) (e := ((307, 1), .iconst 1, (0, 0), (.null, []), none)) lw_dc_2 (k := 13) rfl
theorem d_law_308 : decode code 308 = .ok (.iadd, 1) := lw_dk (P := lwP_2) (e := ((308, 1), .iadd, (0, 0), (.null, []), none)) lw_dc_2 (k := 14) rfl
theorem d_law_309 : decode code 309 = .ok (.iaload, 1) := lw_dk (P := lwP_2) (e := ((309, 1), .iaload, (0, 0), (.null, []), none)) lw_dc_2 (k := 15) rfl
theorem d_law_310 : decode code 310 = .ok (.aload_n 0, 1) := lw_dk (P := lwP_2) (e := ((310, 1), .aload_n 0, (0, 0), (.null, []), none)) lw_dc_2 (k := 16) rfl
theorem d_law_311 : decode code 311 = .ok (.iload_n 3, 1) := lw_dk (P := lwP_2) (e := ((311, 1), .iload_n 3, (0, 0), (.null, []), none)) lw_dc_2 (k := 17) rfl
theorem d_law_312 : decode code 312 = .ok (.iconst 2, 1) := lw_dk (P := lwP_2) (e := ((312, 1), .iconst 2, (0, 0), (.null, []), none)) lw_dc_2 (k := 18) rfl
theorem d_law_313 : decode code 313 = .ok (.iadd, 1) := lw_dk (P := lwP_2) (e := ((313, 1), .iadd, (0, 0), (.null, []), none)) lw_dc_2 (k := 19) rfl
theorem d_law_314 : decode code 314 = .ok (.iaload, 1) := lw_dk (P := lwP_2) (e := ((314, 1), .iaload, (0, 0), (.null, []), none)) lw_dc_2 (k := 20) rfl
theorem d_law_315 : decode code 315 = .ok (.invokevirtual 32, 3) := lw_dk (P := lwP_2) (e := ((315, 3), .invokevirtual 32, (0, 0), (.null, []), none)) lw_dc_2 (k := 21) rfl
theorem d_law_318 : decode code 318 = .ok (.aload_n 2, 1) := lw_dk (P := lwP_2) (e := ((318, 1), .aload_n 2, (0, 0), (.null, []), none)) lw_dc_2 (k := 22) rfl
theorem d_law_319 : decode code 319 = .ok (.aload_n 0, 1) := lw_dk (P := lwP_2) (e := ((319, 1), .aload_n 0, (0, 0), (.null, []), none)) lw_dc_2 (k := 23) rfl
theorem d_law_320 : decode code 320 = .ok (.iload_n 3, 1) := lw_dk (P := lwP_2) (e := ((320, 1), .iload_n 3, (0, 0), (.null, []), none)) lw_dc_2 (k := 24) rfl
theorem d_law_321 : decode code 321 = .ok (.iconst 1, 1) := lw_dk (P := lwP_2) (e := ((321, 1), .iconst 1, (0, 0), (.null, []), none)) lw_dc_2 (k := 25) rfl
theorem d_law_322 : decode code 322 = .ok (.iadd, 1) := lw_dk (P := lwP_2) (e := ((322, 1), .iadd, (0, 0), (.null, []), none)) lw_dc_2 (k := 26) rfl
theorem d_law_323 : decode code 323 = .ok (.iaload, 1) := lw_dk (P := lwP_2) (e := ((323, 1), .iaload, (0, 0), (.null, []), none)) lw_dc_2 (k := 27) rfl
theorem d_law_324 : decode code 324 = .ok (.aload_n 0, 1) := lw_dk (P := lwP_2) (e := ((324, 1), .aload_n 0, (0, 0), (.null, []), none)) lw_dc_2 (k := 28) rfl
theorem d_law_325 : decode code 325 = .ok (.iload_n 3, 1) := lw_dk (P := lwP_2) (e := ((325, 1), .iload_n 3, (0, 0), (.null, []), none)) lw_dc_2 (k := 29) rfl
theorem d_law_326 : decode code 326 = .ok (.iconst 2, 1) := lw_dk (P := lwP_2) (e := ((326, 1), .iconst 2, (0, 0), (.null, []), none)) lw_dc_2 (k := 30) rfl
theorem d_law_327 : decode code 327 = .ok (.iadd, 1) := lw_dk (P := lwP_2) (e := ((327, 1), .iadd, (0, 0), (.null, []), none)) lw_dc_2 (k := 31) rfl
theorem d_law_328 : decode code 328 = .ok (.iaload, 1) := lw_dk (P := lwP_2) (e := ((328, 1), .iaload, (0, 0), (.null, []), none)) lw_dc_2 (k := 32) rfl
theorem d_law_329 : decode code 329 = .ok (.invokevirtual 36, 3) := lw_dk (P := lwP_2) (e := ((329, 3), .invokevirtual 36, (0, 0), (.null, []), none)) lw_dc_2 (k := 33) rfl
theorem d_law_332 : decode code 332 = .ok (.if_icmp .eq 714, 3) := lw_dk (P := lwP_2) (e := ((332, 3), .if_icmp .eq 714, (0, 0), (.null, []), none)) lw_dc_2 (k := 34) rfl
theorem d_law_335 : decode code 335 = .ok (.iconst 0, 1) := lw_dk (P := lwP_2) (e := ((335, 1), .iconst 0, (0, 0), (.null, []), none)) lw_dc_2 (k := 35) rfl
theorem d_law_336 : decode code 336 = .ok (.ireturn, 1) := lw_dk (P := lwP_2) (e := ((336, 1), .ireturn, (0, 0), (.null, []), none)) lw_dc_2 (k := 36) rfl
theorem d_law_337 : decode code 337 = .ok (.aload_n 1, 1) := lw_dk (P := lwP_2) (e := ((337, 1), .aload_n 1, (0, 0), (.null, []), none)) lw_dc_2 (k := 37) rfl
theorem d_law_338 : decode code 338 = .ok (.aload_n 0, 1) := lw_dk (P := lwP_2) (e := ((338, 1), .aload_n 0, (0, 0), (.null, []), none)) lw_dc_2 (k := 38) rfl
theorem d_law_339 : decode code 339 = .ok (.iload_n 3, 1) := lw_dk (P := lwP_2) (e := ((339, 1), .iload_n 3, (0, 0), (.null, []), none)) lw_dc_2 (k := 39) rfl
theorem d_law_340 : decode code 340 = .ok (.iconst 1, 1) := lw_dk (P := lwP_2) (e := ((340, 1), .iconst 1, (0, 0), (.null, []), none)) lw_dc_2 (k := 40) rfl
theorem d_law_341 : decode code 341 = .ok (.iadd, 1) := lw_dk (P := lwP_2) (e := ((341, 1), .iadd, (0, 0), (.null, []), none)) lw_dc_2 (k := 41) rfl
theorem d_law_342 : decode code 342 = .ok (.iaload, 1) := lw_dk (P := lwP_2) (e := ((342, 1), .iaload, (0, 0), (.null, []), none)) lw_dc_2 (k := 42) rfl
theorem d_law_343 : decode code 343 = .ok (.aload_n 0, 1) := lw_dk (P := lwP_2) (e := ((343, 1), .aload_n 0, (0, 0), (.null, []), none)) lw_dc_2 (k := 43) rfl
theorem d_law_344 : decode code 344 = .ok (.iload_n 3, 1) := lw_dk (P := lwP_2) (e := ((344, 1), .iload_n 3, (0, 0), (.null, []), none)) lw_dc_2 (k := 44) rfl
theorem d_law_345 : decode code 345 = .ok (.iconst 2, 1) := lw_dk (P := lwP_2) (e := ((345, 1), .iconst 2, (0, 0), (.null, []), none)) lw_dc_2 (k := 45) rfl
theorem d_law_346 : decode code 346 = .ok (.iadd, 1) := lw_dk (P := lwP_2) (e := ((346, 1), .iadd, (0, 0), (.null, []), none)) lw_dc_2 (k := 46) rfl
theorem d_law_347 : decode code 347 = .ok (.iaload, 1) := lw_dk (P := lwP_2) (e := ((347, 1), .iaload, (0, 0), (.null, []), none)) lw_dc_2 (k := 47) rfl
theorem d_law_348 : decode code 348 = .ok (.invokevirtual 37, 3) := lw_dk (P := lwP_2) (e := ((348, 3), .invokevirtual 37, (0, 0), (.null, []), none)) lw_dc_2 (k := 48) rfl
theorem d_law_351 : decode code 351 = .ok (.aload_n 2, 1) := lw_dk (P := lwP_2) (e := ((351, 1), .aload_n 2, (0, 0), (.null, []), none)) lw_dc_2 (k := 49) rfl
theorem d_law_352 : decode code 352 = .ok (.aload_n 0, 1) := lw_dk (P := lwP_3) (e := ((352, 1), .aload_n 0, (0, 0), (.null, []), none)) lw_dc_3 (k := 0) rfl
theorem d_law_353 : decode code 353 = .ok (.iload_n 3, 1) := lw_dk (P := lwP_3) (e := ((353, 1), .iload_n 3, (0, 0), (.null, []), none)) lw_dc_3 (k := 1) rfl
theorem d_law_354 : decode code 354 = .ok (.iconst 1, 1) := lw_dk (P := lwP_3) (e := ((354, 1), .iconst 1, (0, 0), (.null, []), none)) lw_dc_3 (k := 2) rfl
theorem d_law_355 : decode code 355 = .ok (.iadd, 1) := lw_dk (P := lwP_3) (e := ((355, 1), .iadd, (0, 0), (.null, []), none)) lw_dc_3 (k := 3) rfl
theorem d_law_356 : decode code 356 = .ok (.iaload, 1) := lw_dk (P := lwP_3) (e := ((356, 1), .iaload, (0, 0), (.null, []), none)) lw_dc_3 (k := 4) rfl
theorem d_law_357 : decode code 357 = .ok (.aload_n 0, 1) := lw_dk (P := lwP_3) (e := ((357, 1), .aload_n 0, (0, 0), (.null, []), none)) lw_dc_3 (k := 5) rfl
theorem d_law_358 : decode code 358 = .ok (.iload_n 3, 1) := lw_dk (P := lwP_3) (e := ((358, 1), .iload_n 3, (0, 0), (.null, []), none)) lw_dc_3 (k := 6) rfl
theorem d_law_359 : decode code 359 = .ok (.iconst 2, 1) := lw_dk (P := lwP_3) (e := ((359, 1), .iconst 2, (0, 0), (.null, []), none)) lw_dc_3 (k := 7) rfl
theorem d_law_360 : decode code 360 = .ok (.iadd, 1) := lw_dk (P := lwP_3) (e := ((360, 1), .iadd, (0, 0), (.null, []), none)) lw_dc_3 (k := 8) rfl
theorem d_law_361 : decode code 361 = .ok (.iaload, 1) := lw_dk (P := lwP_3) (e := ((361, 1), .iaload, (0, 0), (.null, []), none)) lw_dc_3 (k := 9) rfl
theorem d_law_362 : decode code 362 = .ok (.invokevirtual 40, 3) := lw_dk (P := lwP_3) (e := ((362, 3), .invokevirtual 40, (0, 0), (.null, []), none)) lw_dc_3 (k := 10) rfl
theorem d_law_365 : decode code 365 = .ok (.if_icmp .eq 681, 3) := lw_dk (P := lwP_3) (e := ((365, 3), .if_icmp .eq 681, (0, 0), (.null, []), none)) lw_dc_3 (k := 11) rfl
theorem d_law_368 : decode code 368 = .ok (.iconst 0, 1) := lw_dk (P := lwP_3) (e := ((368, 1), .iconst 0, (0, 0), (.null, []), none)) lw_dc_3 (k := 12) rfl
theorem d_law_369 : decode code 369 = .ok (.ireturn, 1) := lw_dk (P := lwP_3) (e := ((369, 1), .ireturn, (0, 0), (.null, []), none)) lw_dc_3 (k := 13) rfl
theorem d_law_370 : decode code 370 = .ok (.aload_n 1, 1) := lw_dk (P := lwP_3) (e := ((370, 1), .aload_n 1, (0, 0), (.null, []), none)) lw_dc_3 (k := 14) rfl
theorem d_law_371 : decode code 371 = .ok (.aload_n 0, 1) := lw_dk (P := lwP_3) (e := ((371, 1), .aload_n 0, (0, 0), (.null, []), none)) lw_dc_3 (k := 15) rfl
theorem d_law_372 : decode code 372 = .ok (.iload_n 3, 1) := lw_dk (P := lwP_3) (e := ((372, 1), .iload_n 3, (0, 0), (.null, []), none)) lw_dc_3 (k := 16) rfl
theorem d_law_373 : decode code 373 = .ok (.iconst 1, 1) := lw_dk (P := lwP_3) (e := ((373, 1), .iconst 1, (0, 0), (.null, []), none)) lw_dc_3 (k := 17) rfl
theorem d_law_374 : decode code 374 = .ok (.iadd, 1) := lw_dk (P := lwP_3) (e := ((374, 1), .iadd, (0, 0), (.null, []), none)) lw_dc_3 (k := 18) rfl
theorem d_law_375 : decode code 375 = .ok (.iaload, 1) := lw_dk (P := lwP_3) (e := ((375, 1), .iaload, (0, 0), (.null, []), none)) lw_dc_3 (k := 19) rfl
theorem d_law_376 : decode code 376 = .ok (.invokevirtual 41, 3) := lw_dk (P := lwP_3) (e := ((376, 3), .invokevirtual 41, (0, 0), (.null, []), none)) lw_dc_3 (k := 20) rfl
theorem d_law_379 : decode code 379 = .ok (.aload_n 2, 1) := lw_dk (P := lwP_3) (e := ((379, 1), .aload_n 2, (0, 0), (.null, []), none)) lw_dc_3 (k := 21) rfl
theorem d_law_380 : decode code 380 = .ok (.aload_n 0, 1) := lw_dk (P := lwP_3) (e := ((380, 1), .aload_n 0, (0, 0), (.null, []), none)) lw_dc_3 (k := 22) rfl
theorem d_law_381 : decode code 381 = .ok (.iload_n 3, 1) := lw_dk (P := lwP_3) (e := ((381, 1), .iload_n 3, (0, 0), (.null, []), none)) lw_dc_3 (k := 23) rfl
theorem d_law_382 : decode code 382 = .ok (.iconst 1, 1) := lw_dk (P := lwP_3) (e := ((382, 1), .iconst 1, (0, 0), (.null, []), none)) lw_dc_3 (k := 24) rfl
theorem d_law_383 : decode code 383 = .ok (.iadd, 1) := lw_dk (P := lwP_3) (e := ((383, 1), .iadd, (0, 0), (.null, []), none)) lw_dc_3 (k := 25) rfl
theorem d_law_384 : decode code 384 = .ok (.iaload, 1) := lw_dk (P := lwP_3) (e := ((384, 1), .iaload, (0, 0), (.null, []), none)) lw_dc_3 (k := 26) rfl
theorem d_law_385 : decode code 385 = .ok (.invokevirtual 44, 3) := lw_dk (P := lwP_3) (e := ((385, 3), .invokevirtual 44, (0, 0), (.null, []), none)) lw_dc_3 (k := 27) rfl
theorem d_law_388 : decode code 388 = .ok (.if_icmp .eq 658, 3) := lw_dk (P := lwP_3) (e := ((388, 3), .if_icmp .eq 658, (0, 0), (.null, []), none)) lw_dc_3 (k := 28) rfl
theorem d_law_391 : decode code 391 = .ok (.iconst 0, 1) := lw_dk (P := lwP_3) (e := ((391, 1), .iconst 0, (0, 0), (.null, []), none)) lw_dc_3 (k := 29) rfl
theorem d_law_392 : decode code 392 = .ok (.ireturn, 1) := lw_dk (P := lwP_3) (e := ((392, 1), .ireturn, (0, 0), (.null, []), none)) lw_dc_3 (k := 30) rfl
theorem d_law_393 : decode code 393 = .ok (.aload_n 1, 1) := lw_dk (P := lwP_3) (e := ((393, 1), .aload_n 1, (0, 0), (.null, []), none)) lw_dc_3 (k := 31) rfl
theorem d_law_394 : decode code 394 = .ok (.invokevirtual 45, 3) := lw_dk (P := lwP_3) (e := ((394, 3), .invokevirtual 45, (0, 0), (.null, []), none)) lw_dc_3 (k := 32) rfl
theorem d_law_397 : decode code 397 = .ok (.aload_n 2, 1) := lw_dk (P := lwP_3) (e := ((397, 1), .aload_n 2, (0, 0), (.null, []), none)) lw_dc_3 (k := 33) rfl
theorem d_law_398 : decode code 398 = .ok (.invokevirtual 48, 3) := lw_dk (P := lwP_3) (e := ((398, 3), .invokevirtual 48, (0, 0), (.null, []), none)) lw_dc_3 (k := 34) rfl
theorem d_law_401 : decode code 401 = .ok (.if_icmp .eq 645, 3) := lw_dk (P := lwP_3) (e := ((401, 3), .if_icmp .eq 645, (0, 0), (.null, []), none)) lw_dc_3 (k := 35) rfl
theorem d_law_404 : decode code 404 = .ok (.iconst 0, 1) := lw_dk (P := lwP_3) (e := ((404, 1), .iconst 0, (0, 0), (.null, []), none)) lw_dc_3 (k := 36) rfl
theorem d_law_405 : decode code 405 = .ok (.ireturn, 1) := lw_dk (P := lwP_3) (e := ((405, 1), .ireturn, (0, 0), (.null, []), none)) lw_dc_3 (k := 37) rfl
theorem d_law_406 : decode code 406 = .ok (.aload_n 1, 1) := lw_dk (P := lwP_3) (e := ((406, 1), .aload_n 1, (0, 0), (.null, []), none)) lw_dc_3 (k := 38) rfl
theorem d_law_407 : decode code 407 = .ok (.aload_n 0, 1) := lw_dk (P := lwP_3) (e := ((407, 1), .aload_n 0, (0, 0), (.null, []), none)) lw_dc_3 (k := 39) rfl
theorem d_law_408 : decode code 408 = .ok (.iload_n 3, 1) := lw_dk (P := lwP_3) (e := ((408, 1), .iload_n 3, (0, 0), (.null, []), none)) lw_dc_3 (k := 40) rfl
theorem d_law_409 : decode code 409 = .ok (.iconst 1, 1) := lw_dk (P := lwP_3) (e := ((409, 1), .iconst 1, (0, 0), (.null, []), none)) lw_dc_3 (k := 41) rfl
theorem d_law_410 : decode code 410 = .ok (.iadd, 1) := lw_dk (P := lwP_3) (e := ((410, 1), .iadd, (0, 0), (.null, []), none)) lw_dc_3 (k := 42) rfl
theorem d_law_411 : decode code 411 = .ok (.iaload, 1) := lw_dk (P := lwP_3) (e := ((411, 1), .iaload, (0, 0), (.null, []), none)) lw_dc_3 (k := 43) rfl
theorem d_law_412 : decode code 412 = .ok (.aload_n 0, 1) := lw_dk (P := lwP_3) (e := ((412, 1), .aload_n 0, (0, 0), (.null, []), none)) lw_dc_3 (k := 44) rfl
theorem d_law_413 : decode code 413 = .ok (.iload_n 3, 1) := lw_dk (P := lwP_3) (e := ((413, 1), .iload_n 3, (0, 0), (.null, []), none)) lw_dc_3 (k := 45) rfl
theorem d_law_414 : decode code 414 = .ok (.iconst 2, 1) := lw_dk (P := lwP_3) (e := ((414, 1), .iconst 2, (0, 0), (.null, []), none)) lw_dc_3 (k := 46) rfl
theorem d_law_415 : decode code 415 = .ok (.iadd, 1) := lw_dk (P := lwP_3) (e := ((415, 1), .iadd, (0, 0), (.null, []), none)) lw_dc_3 (k := 47) rfl
theorem d_law_416 : decode code 416 = .ok (.iaload, 1) := lw_dk (P := lwP_3) (e := ((416, 1), .iaload, (0, 0), (.null, []), none)) lw_dc_3 (k := 48) rfl
theorem d_law_417 : decode code 417 = .ok (.invokevirtual 49, 3) := lw_dk (P := lwP_3) (e := ((417, 3), .invokevirtual 49, (0, 0), (.null, []), none)) lw_dc_3 (k := 49) rfl
theorem d_law_420 : decode code 420 = .ok (.aload_n 2, 1) := lw_dk (P := lwP_4) (e := ((420, 1), .aload_n 2, (0, 0), (.null, []), none)) lw_dc_4 (k := 0) rfl
theorem d_law_421 : decode code 421 = .ok (.aload_n 0, 1) := lw_dk (P := lwP_4) (e := ((421, 1), .aload_n 0, (0, 0), (.null, []), none)) lw_dc_4 (k := 1) rfl
theorem d_law_422 : decode code 422 = .ok (.iload_n 3, 1) := lw_dk (P := lwP_4) (e := ((422, 1), .iload_n 3, (0, 0), (.null, []), none)) lw_dc_4 (k := 2) rfl
theorem d_law_423 : decode code 423 = .ok (.iconst 1, 1) := lw_dk (P := lwP_4) (e := ((423, 1), .iconst 1, (0, 0), (.null, []), none)) lw_dc_4 (k := 3) rfl
theorem d_law_424 : decode code 424 = .ok (.iadd, 1) := lw_dk (P := lwP_4) (e := ((424, 1), .iadd, (0, 0), (.null, []), none)) lw_dc_4 (k := 4) rfl
theorem d_law_425 : decode code 425 = .ok (.iaload, 1) := lw_dk (P := lwP_4) (e := ((425, 1), .iaload, (0, 0), (.null, []), none)) lw_dc_4 (k := 5) rfl
theorem d_law_426 : decode code 426 = .ok (.aload_n 0, 1) := lw_dk (P := lwP_4) (e := ((426, 1), .aload_n 0, (0, 0), (.null, []), none)) lw_dc_4 (k := 6) rfl
theorem d_law_427 : decode code 427 = .ok (.iload_n 3, 1) := lw_dk (P := lwP_4) (e := ((427, 1), .iload_n 3, (0, 0), (.null, []), none)) lw_dc_4 (k := 7) rfl
theorem d_law_428 : decode code 428 = .ok (.iconst 2, 1) := lw_dk (P := lwP_4) (e := ((428, 1), .iconst 2, (0, 0), (.null, []), none)) lw_dc_4 (k := 8) rfl
theorem d_law_429 : decode code 429 = .ok (.iadd, 1) := lw_dk (P := lwP_4) (e := ((429, 1), .iadd, (0, 0), (.null, []), none)) lw_dc_4 (k := 9) rfl
theorem d_law_430 : decode code 430 = .ok (.iaload, 1) := lw_dk (P := lwP_4) (e := ((430, 1), .iaload, (0, 0), (.null, []), none)) lw_dc_4 (k := 10) rfl
theorem d_law_431 : decode code 431 = .ok (.invokevirtual 52, 3) := lw_dk (P := lwP_4) (e := ((431, 3), .invokevirtual 52, (0, 0), (.null, []), none)) lw_dc_4 (k := 11) rfl
theorem d_law_434 : decode code 434 = .ok (.if_icmp .eq 612, 3) := lw_dk (P := lwP_4) (e := ((434, 3), .if_icmp .eq 612, (0, 0), (.null, []), none)) lw_dc_4 (k := 12) rfl
theorem d_law_437 : decode code 437 = .ok (.iconst 0, 1) := lw_dk (P := lwP_4) (e := ((437, 1), .iconst 0, (0, 0), (.null, []), none)) lw_dc_4 (k := 13) rfl
theorem d_law_438 : decode code 438 = .ok (.ireturn, 1) := lw_dk (P := lwP_4) (e := ((438, 1), .ireturn, (0, 0), (.null, []), none)) lw_dc_4 (k := 14) rfl
theorem d_law_439 : decode code 439 = .ok (.aload_n 1, 1) := lw_dk (P := lwP_4) (e := ((439, 1), .aload_n 1, (0, 0), (.null, []), none)) lw_dc_4 (k := 15) rfl
theorem d_law_440 : decode code 440 = .ok (.invokevirtual 53, 3) := lw_dk (P := lwP_4) (e := ((440, 3), .invokevirtual 53, (0, 0), (.null, []), none)) lw_dc_4 (k := 16) rfl
theorem d_law_443 : decode code 443 = .ok (.aload_n 2, 1) := lw_dk (P := lwP_4) (e := ((443, 1), .aload_n 2, (0, 0), (.null, []), none)) lw_dc_4 (k := 17) rfl
theorem d_law_444 : decode code 444 = .ok (.invokevirtual 57, 3) := lw_dk (P := lwP_4) (e := ((444, 3), .invokevirtual 57, (0, 0), (.null, []), none)) lw_dc_4 (k := 18) rfl
theorem d_law_447 : decode code 447 = .ok (.if_icmp .eq 599, 3) := lw_dk (P := lwP_4) (e := ((447, 3), .if_icmp .eq 599, (0, 0), (.null, []), none)) lw_dc_4 (k := 19) rfl
theorem d_law_450 : decode code 450 = .ok (.iconst 0, 1) := lw_dk (P := lwP_4) (e := ((450, 1), .iconst 0, (0, 0), (.null, []), none)) lw_dc_4 (k := 20) rfl
theorem d_law_451 : decode code 451 = .ok (.ireturn, 1) := lw_dk (P := lwP_4) (e := ((451, 1), .ireturn, (0, 0), (.null, []), none)) lw_dc_4 (k := 21) rfl
theorem d_law_452 : decode code 452 = .ok (.aload_n 1, 1) := lw_dk (P := lwP_4) (e := ((452, 1), .aload_n 1, (0, 0), (.null, []), none)) lw_dc_4 (k := 22) rfl
theorem d_law_453 : decode code 453 = .ok (.aload_n 0, 1) := lw_dk (P := lwP_4) (e := ((453, 1), .aload_n 0, (0, 0), (.null, []), none)) lw_dc_4 (k := 23) rfl
theorem d_law_454 : decode code 454 = .ok (.iload_n 3, 1) := lw_dk (P := lwP_4) (e := ((454, 1), .iload_n 3, (0, 0), (.null, []), none)) lw_dc_4 (k := 24) rfl
theorem d_law_455 : decode code 455 = .ok (.iconst 1, 1) := lw_dk (P := lwP_4) (e := ((455, 1), .iconst 1, (0, 0), (.null, []), none)) lw_dc_4 (k := 25) rfl
theorem d_law_456 : decode code 456 = .ok (.iadd, 1) := lw_dk (P := lwP_4) (e := ((456, 1), .iadd, (0, 0), (.null, []), none)) lw_dc_4 (k := 26) rfl
theorem d_law_457 : decode code 457 = .ok (.iaload, 1) := lw_dk (P := lwP_4) (e := ((457, 1), .iaload, (0, 0), (.null, []), none)) lw_dc_4 (k := 27) rfl
theorem d_law_458 : decode code 458 = .ok (.invokevirtual 58, 3) := lw_dk (P := lwP_4) (e := ((458, 3), .invokevirtual 58, (0, 0), (.null, []), none)) lw_dc_4 (k := 28) rfl
theorem d_law_461 : decode code 461 = .ok (.aload_n 2, 1) := lw_dk (P := lwP_4) (e := ((461, 1), .aload_n 2, (0, 0), (.null, []), none)) lw_dc_4 (k := 29) rfl
theorem d_law_462 : decode code 462 = .ok (.aload_n 0, 1) := lw_dk (P := lwP_4) (e := ((462, 1), .aload_n 0, (0, 0), (.null, []), none)) lw_dc_4 (k := 30) rfl
theorem d_law_463 : decode code 463 = .ok (.iload_n 3, 1) := lw_dk (P := lwP_4) (e := ((463, 1), .iload_n 3, (0, 0), (.null, []), none)) lw_dc_4 (k := 31) rfl
theorem d_law_464 : decode code 464 = .ok (.iconst 1, 1) := lw_dk (P := lwP_4) (e := ((464, 1), .iconst 1, (0, 0), (.null, []), none)) lw_dc_4 (k := 32) rfl
theorem d_law_465 : decode code 465 = .ok (.iadd, 1) := lw_dk (P := lwP_4) (e := ((465, 1), .iadd, (0, 0), (.null, []), none)) lw_dc_4 (k := 33) rfl
theorem d_law_466 : decode code 466 = .ok (.iaload, 1) := lw_dk (P := lwP_4) (e := ((466, 1), .iaload, (0, 0), (.null, []), none)) lw_dc_4 (k := 34) rfl
theorem d_law_467 : decode code 467 = .ok (.invokevirtual 61, 3) := lw_dk (P := lwP_4) (e := ((467, 3), .invokevirtual 61, (0, 0), (.null, []), none)) lw_dc_4 (k := 35) rfl
theorem d_law_470 : decode code 470 = .ok (.if_icmp .eq 576, 3) := lw_dk (P := lwP_4) (e := ((470, 3), .if_icmp .eq 576, (0, 0), (.null, []), none)) lw_dc_4 (k := 36) rfl
theorem d_law_473 : decode code 473 = .ok (.iconst 0, 1) := lw_dk (P := lwP_4) (e := ((473, 1), .iconst 0, (0, 0), (.null, []), none)) lw_dc_4 (k := 37) rfl
theorem d_law_474 : decode code 474 = .ok (.ireturn, 1) := lw_dk (P := lwP_4) (e := ((474, 1), .ireturn, (0, 0), (.null, []), none)) lw_dc_4 (k := 38) rfl
theorem d_law_475 : decode code 475 = .ok (.aload_n 1, 1) := lw_dk (P := lwP_4) (e := ((475, 1), .aload_n 1, (0, 0), (.null, []), none)) lw_dc_4 (k := 39) rfl
theorem d_law_476 : decode code 476 = .ok (.invokevirtual 62, 3) := lw_dk (P := lwP_4) (e := ((476, 3), .invokevirtual 62, (0, 0), (.null, []), none)) lw_dc_4 (k := 40) rfl
theorem d_law_479 : decode code 479 = .ok (.aload_n 2, 1) := lw_dk (P := lwP_4) (e := ((479, 1), .aload_n 2, (0, 0), (.null, []), none)) lw_dc_4 (k := 41) rfl
theorem d_law_480 : decode code 480 = .ok (.invokevirtual 65, 3) := lw_dk (P := lwP_4) (e := ((480, 3), .invokevirtual 65, (0, 0), (.null, []), none)) lw_dc_4 (k := 42) rfl
theorem d_law_483 : decode code 483 = .ok (.if_icmp .eq 563, 3) := lw_dk (P := lwP_4) (e := ((483, 3), .if_icmp .eq 563, (0, 0), (.null, []), none)) lw_dc_4 (k := 43) rfl
theorem d_law_486 : decode code 486 = .ok (.iconst 0, 1) := lw_dk (P := lwP_4) (e := ((486, 1), .iconst 0, (0, 0), (.null, []), none)) lw_dc_4 (k := 44) rfl
theorem d_law_487 : decode code 487 = .ok (.ireturn, 1) := lw_dk (P := lwP_4) (e := ((487, 1), .ireturn, (0, 0), (.null, []), none)) lw_dc_4 (k := 45) rfl
theorem d_law_488 : decode code 488 = .ok (.aload_n 1, 1) := lw_dk (P := lwP_4) (e := ((488, 1), .aload_n 1, (0, 0), (.null, []), none)) lw_dc_4 (k := 46) rfl
theorem d_law_489 : decode code 489 = .ok (.invokevirtual 66, 3) := lw_dk (P := lwP_4) (e := ((489, 3), .invokevirtual 66, (0, 0), (.null, []), none)) lw_dc_4 (k := 47) rfl
theorem d_law_492 : decode code 492 = .ok (.aload_n 2, 1) := lw_dk (P := lwP_4) (e := ((492, 1), .aload_n 2, (0, 0), (.null, []), none)) lw_dc_4 (k := 48) rfl
theorem d_law_493 : decode code 493 = .ok (.invokevirtual 69, 3) := lw_dk (P := lwP_4) (e := ((493, 3), .invokevirtual 69, (0, 0), (.null, []), none)) lw_dc_4 (k := 49) rfl
theorem d_law_496 : decode code 496 = .ok (.if_icmp .eq 550, 3) := lw_dk (P := lwP_5) (e := ((496, 3), .if_icmp .eq 550, (0, 0), (.null, []), none)) lw_dc_5 (k := 0) rfl
theorem d_law_499 : decode code 499 = .ok (.iconst 0, 1) := lw_dk (P := lwP_5) (e := ((499, 1), .iconst 0, (0, 0), (.null, []), none)) lw_dc_5 (k := 1) rfl
theorem d_law_500 : decode code 500 = .ok (.ireturn, 1) := lw_dk (P := lwP_5) (e := ((500, 1), .ireturn, (0, 0), (.null, []), none)) lw_dc_5 (k := 2) rfl
theorem d_law_501 : decode code 501 = .ok (.aload_n 1, 1) := lw_dk (P := lwP_5) (e := ((501, 1), .aload_n 1, (0, 0), (.null, []), none)) lw_dc_5 (k := 3) rfl
theorem d_law_502 : decode code 502 = .ok (.invokevirtual 70, 3) := lw_dk (P := lwP_5) (e := ((502, 3), .invokevirtual 70, (0, 0), (.null, []), none)) lw_dc_5 (k := 4) rfl
theorem d_law_505 : decode code 505 = .ok (.aload_n 2, 1) := lw_dk (P := lwP_5) (e := ((505, 1), .aload_n 2, (0, 0), (.null, []), none)) lw_dc_5 (k := 5) rfl
theorem d_law_506 : decode code 506 = .ok (.invokevirtual 73, 3) := lw_dk (P := lwP_5) (e := ((506, 3), .invokevirtual 73, (0, 0), (.null, []), none)) lw_dc_5 (k := 6) rfl
theorem d_law_509 : decode code 509 = .ok (.if_icmp .eq 537, 3) := lw_dk (P := lwP_5) (e := ((509, 3), .if_icmp .eq 537, (0, 0), (.null, []), none)) lw_dc_5 (k := 7) rfl
theorem d_law_512 : decode code 512 = .ok (.iconst 0, 1) := lw_dk (P := lwP_5) (e := ((512, 1), .iconst 0, (0, 0), (.null, []), none)) lw_dc_5 (k := 8) rfl
theorem d_law_513 : decode code 513 = .ok (.ireturn, 1) := lw_dk (P := lwP_5) (e := ((513, 1), .ireturn, (0, 0), (.null, []), none)) lw_dc_5 (k := 9) rfl
theorem d_law_514 : decode code 514 = .ok (.aload_n 1, 1) := lw_dk (P := lwP_5) (e := ((514, 1), .aload_n 1, (0, 0), (.null, []), none)) lw_dc_5 (k := 10) rfl
theorem d_law_515 : decode code 515 = .ok (.invokevirtual 74, 3) := lw_dk (P := lwP_5) (e := ((515, 3), .invokevirtual 74, (0, 0), (.null, []), none)) lw_dc_5 (k := 11) rfl
theorem d_law_518 : decode code 518 = .ok (.aload_n 2, 1) := lw_dk (P := lwP_5) (e := ((518, 1), .aload_n 2, (0, 0), (.null, []), none)) lw_dc_5 (k := 12) rfl
theorem d_law_519 : decode code 519 = .ok (.invokevirtual 77, 3) := lw_dk (P := lwP_5) (e := ((519, 3), .invokevirtual 77, (0, 0), (.null, []), none)) lw_dc_5 (k := 13) rfl
theorem d_law_522 : decode code 522 = .ok (.if_icmp .eq 524, 3) := lw_dk (P := lwP_5) (e := ((522, 3), .if_icmp .eq 524, (0, 0), (.null, []), none)) lw_dc_5 (k := 14) rfl
theorem d_law_525 : decode code 525 = .ok (.iconst 0, 1) := lw_dk (P := lwP_5) (e := ((525, 1), .iconst 0, (0, 0), (.null, []), none)) lw_dc_5 (k := 15) rfl
theorem d_law_526 : decode code 526 = .ok (.ireturn, 1) := lw_dk (P := lwP_5) (e := ((526, 1), .ireturn, (0, 0), (.null, []), none)) lw_dc_5 (k := 16) rfl
theorem d_law_527 : decode code 527 = .ok (.aload_n 1, 1) := lw_dk (P := lwP_5) (e := ((527, 1), .aload_n 1, (0, 0), (.null, []), none)) lw_dc_5 (k := 17) rfl
theorem d_law_528 : decode code 528 = .ok (.invokevirtual 78, 3) := lw_dk (P := lwP_5) (e := ((528, 3), .invokevirtual 78, (0, 0), (.null, []), none)) lw_dc_5 (k := 18) rfl
theorem d_law_531 : decode code 531 = .ok (.aload_n 2, 1) := lw_dk (P := lwP_5) (e := ((531, 1), .aload_n 2, (0, 0), (.null, []), none)) lw_dc_5 (k := 19) rfl
theorem d_law_532 : decode code 532 = .ok (.invokevirtual 81, 3) := lw_dk (P := lwP_5) (e := ((532, 3), .invokevirtual 81, (0, 0), (.null, []), none)) lw_dc_5 (k := 20) rfl
theorem d_law_535 : decode code 535 = .ok (.if_icmp .eq 511, 3) := lw_dk (P := lwP_5) (e := ((535, 3), .if_icmp .eq 511, (0, 0), (.null, []), none)) lw_dc_5 (k := 21) rfl
theorem d_law_538 : decode code 538 = .ok (.iconst 0, 1) := lw_dk (P := lwP_5) (e := ((538, 1), .iconst 0, (0, 0), (.null, []), none)) lw_dc_5 (k := 22) rfl
theorem d_law_539 : decode code 539 = .ok (.ireturn, 1) := lw_dk (P := lwP_5) (e := ((539, 1), .ireturn, (0, 0), (.null, []), none)) lw_dc_5 (k := 23) rfl
theorem d_law_540 : decode code 540 = .ok (.aload_n 1, 1) := lw_dk (P := lwP_5) (e := ((540, 1), .aload_n 1, (0, 0), (.null, []), none)) lw_dc_5 (k := 24) rfl
theorem d_law_541 : decode code 541 = .ok (.aload_n 0, 1) := lw_dk (P := lwP_5) (e := ((541, 1), .aload_n 0, (0, 0), (.null, []), none)) lw_dc_5 (k := 25) rfl
theorem d_law_542 : decode code 542 = .ok (.iload_n 3, 1) := lw_dk (P := lwP_5) (e := ((542, 1), .iload_n 3, (0, 0), (.null, []), none)) lw_dc_5 (k := 26) rfl
theorem d_law_543 : decode code 543 = .ok (.iconst 1, 1) := lw_dk (P := lwP_5) (e := ((543, 1), .iconst 1, (0, 0), (.null, []), none)) lw_dc_5 (k := 27) rfl
theorem d_law_544 : decode code 544 = .ok (.iadd, 1) := lw_dk (P := lwP_5) (e := ((544, 1), .iadd, (0, 0), (.null, []), none)) lw_dc_5 (k := 28) rfl
theorem d_law_545 : decode code 545 = .ok (.iaload, 1) := lw_dk (P := lwP_5) (e := ((545, 1), .iaload, (0, 0), (.null, []), none)) lw_dc_5 (k := 29) rfl
theorem d_law_546 : decode code 546 = .ok (.invokevirtual 82, 3) := lw_dk (P := lwP_5) (e := ((546, 3), .invokevirtual 82, (0, 0), (.null, []), none)) lw_dc_5 (k := 30) rfl
theorem d_law_549 : decode code 549 = .ok (.aload_n 2, 1) := lw_dk (P := lwP_5) (e := ((549, 1), .aload_n 2, (0, 0), (.null, []), none)) lw_dc_5 (k := 31) rfl
theorem d_law_550 : decode code 550 = .ok (.aload_n 0, 1) := lw_dk (P := lwP_5) (e := ((550, 1), .aload_n 0, (0, 0), (.null, []), none)) lw_dc_5 (k := 32) rfl
theorem d_law_551 : decode code 551 = .ok (.iload_n 3, 1) := lw_dk (P := lwP_5) (e := ((551, 1), .iload_n 3, (0, 0), (.null, []), none)) lw_dc_5 (k := 33) rfl
theorem d_law_552 : decode code 552 = .ok (.iconst 1, 1) := lw_dk (P := lwP_5) (e := ((552, 1), .iconst 1, (0, 0), (.null, []), none)) lw_dc_5 (k := 34) rfl
theorem d_law_553 : decode code 553 = .ok (.iadd, 1) := lw_dk (P := lwP_5) (e := ((553, 1), .iadd, (0, 0), (.null, []), none)) lw_dc_5 (k := 35) rfl
theorem d_law_554 : decode code 554 = .ok (.iaload, 1) := lw_dk (P := lwP_5) (e := ((554, 1), .iaload, (0, 0), (.null, []), none)) lw_dc_5 (k := 36) rfl
theorem d_law_555 : decode code 555 = .ok (.invokevirtual 85, 3) := lw_dk (P := lwP_5) (e := ((555, 3), .invokevirtual 85, (0, 0), (.null, []), none)) lw_dc_5 (k := 37) rfl
theorem d_law_558 : decode code 558 = .ok (.if_icmp .eq 488, 3) := lw_dk (P := lwP_5) (e := ((558, 3), .if_icmp .eq 488, (0, 0), (.null, []), none)) lw_dc_5 (k := 38) rfl
theorem d_law_561 : decode code 561 = .ok (.iconst 0, 1) := lw_dk (P := lwP_5) (e := ((561, 1), .iconst 0, (0, 0), (.null, []), none)) lw_dc_5 (k := 39) rfl
theorem d_law_562 : decode code 562 = .ok (.ireturn, 1) := lw_dk (P := lwP_5) (e := ((562, 1), .ireturn, (0, 0), (.null, []), none)) lw_dc_5 (k := 40) rfl
theorem d_law_563 : decode code 563 = .ok (.aload_n 1, 1) := lw_dk (P := lwP_5) (e := ((563, 1), .aload_n 1, (0, 0), (.null, []), none)) lw_dc_5 (k := 41) rfl
theorem d_law_564 : decode code 564 = .ok (.aload_n 0, 1) := lw_dk (P := lwP_5) (e := ((564, 1), .aload_n 0, (0, 0), (.null, []), none)) lw_dc_5 (k := 42) rfl
theorem d_law_565 : decode code 565 = .ok (.iload_n 3, 1) := lw_dk (P := lwP_5) (e := ((565, 1), .iload_n 3, (0, 0), (.null, []), none)) lw_dc_5 (k := 43) rfl
theorem d_law_566 : decode code 566 = .ok (.iconst 1, 1) := lw_dk (P := lwP_5) (e := ((566, 1), .iconst 1, (0, 0), (.null, []), none)) lw_dc_5 (k := 44) rfl
theorem d_law_567 : decode code 567 = .ok (.iadd, 1) := lw_dk (P := lwP_5) (e := ((567, 1), .iadd, (0, 0), (.null, []), none)) lw_dc_5 (k := 45) rfl
theorem d_law_568 : decode code 568 = .ok (.iaload, 1) := lw_dk (P := lwP_5) (e := ((568, 1), .iaload, (0, 0), (.null, []), none)) lw_dc_5 (k := 46) rfl
theorem d_law_569 : decode code 569 = .ok (.invokevirtual 86, 3) := lw_dk (P := lwP_5) (e := ((569, 3), .invokevirtual 86, (0, 0), (.null, []), none)) lw_dc_5 (k := 47) rfl
theorem d_law_572 : decode code 572 = .ok (.aload_n 2, 1) := lw_dk (P := lwP_5) (e := ((572, 1), .aload_n 2, (0, 0), (.null, []), none)) lw_dc_5 (k := 48) rfl
theorem d_law_573 : decode code 573 = .ok (.aload_n 0, 1) := lw_dk (P := lwP_5) (e := ((573, 1), .aload_n 0, (0, 0), (.null, []), none)) lw_dc_5 (k := 49) rfl
theorem d_law_574 : decode code 574 = .ok (.iload_n 3, 1) := lw_dk (P := lwP_6) (e := ((574, 1), .iload_n 3, (0, 0), (.null, []), none)) lw_dc_6 (k := 0) rfl
theorem d_law_575 : decode code 575 = .ok (.iconst 1, 1) := lw_dk (P := lwP_6) (e := ((575, 1), .iconst 1, (0, 0), (.null, []), none)) lw_dc_6 (k := 1) rfl
theorem d_law_576 : decode code 576 = .ok (.iadd, 1) := lw_dk (P := lwP_6) (e := ((576, 1), .iadd, (0, 0), (.null, []), none)) lw_dc_6 (k := 2) rfl
theorem d_law_577 : decode code 577 = .ok (.iaload, 1) := lw_dk (P := lwP_6) (e := ((577, 1), .iaload, (0, 0), (.null, []), none)) lw_dc_6 (k := 3) rfl
theorem d_law_578 : decode code 578 = .ok (.invokevirtual 89, 3) := lw_dk (P := lwP_6) (e := ((578, 3), .invokevirtual 89, (0, 0), (.null, []), none)) lw_dc_6 (k := 4) rfl
theorem d_law_581 : decode code 581 = .ok (.if_icmp .eq 465, 3) := lw_dk (P := lwP_6) (e := ((581, 3), .if_icmp .eq 465, (0, 0), (.null, []), none)) lw_dc_6 (k := 5) rfl
theorem d_law_584 : decode code 584 = .ok (.iconst 0, 1) := lw_dk (P := lwP_6) (e := ((584, 1), .iconst 0, (0, 0), (.null, []), none)) lw_dc_6 (k := 6) rfl
theorem d_law_585 : decode code 585 = .ok (.ireturn, 1) := lw_dk (P := lwP_6) (e := ((585, 1), .ireturn, (0, 0), (.null, []), none)) lw_dc_6 (k := 7) rfl
theorem d_law_586 : decode code 586 = .ok (.aload_n 1, 1) := lw_dk (P := lwP_6) (e := ((586, 1), .aload_n 1, (0, 0), (.null, []), none)) lw_dc_6 (k := 8) rfl
theorem d_law_587 : decode code 587 = .ok (.aload_n 0, 1) := lw_dk (P := lwP_6) (e := ((587, 1), .aload_n 0, (0, 0), (.null, []), none)) lw_dc_6 (k := 9) rfl
theorem d_law_588 : decode code 588 = .ok (.iload_n 3, 1) := lw_dk (P := lwP_6) (e := ((588, 1), .iload_n 3, (0, 0), (.null, []), none)) lw_dc_6 (k := 10) rfl
theorem d_law_589 : decode code 589 = .ok (.iconst 1, 1) := lw_dk (P := lwP_6) (e := ((589, 1), .iconst 1, (0, 0), (.null, []), none)) lw_dc_6 (k := 11) rfl
theorem d_law_590 : decode code 590 = .ok (.iadd, 1) := lw_dk (P := lwP_6) (e := ((590, 1), .iadd, (0, 0), (.null, []), none)) lw_dc_6 (k := 12) rfl
theorem d_law_591 : decode code 591 = .ok (.iaload, 1) := lw_dk (P := lwP_6) (e := ((591, 1), .iaload, (0, 0), (.null, []), none)) lw_dc_6 (k := 13) rfl
theorem d_law_592 : decode code 592 = .ok (.invokevirtual 90, 3) := lw_dk (P := lwP_6) (e := ((592, 3), .invokevirtual 90, (0, 0), (.null, []), none)) lw_dc_6 (k := 14) rfl
theorem d_law_595 : decode code 595 = .ok (.aload_n 2, 1) := lw_dk (P := lwP_6) (e := ((595, 1), .aload_n 2, (0, 0), (.null, []), none)) lw_dc_6 (k := 15) rfl
theorem d_law_596 : decode code 596 = .ok (.aload_n 0, 1) := lw_dk (P := lwP_6) (e := ((596, 1), .aload_n 0, (0, 0), (.null, []), none)) lw_dc_6 (k := 16) rfl
theorem d_law_597 : decode code 597 = .ok (.iload_n 3, 1) := lw_dk (P := lwP_6) (e := ((597, 1), .iload_n 3, (0, 0), (.null, []), none)) lw_dc_6 (k := 17) rfl
theorem d_law_598 : decode code 598 = .ok (.iconst 1, 1) := lw_dk (P := lwP_6) (e := ((598, 1), .iconst 1, (0, 0), (.null, []), none)) lw_dc_6 (k := 18) rfl
theorem d_law_599 : decode code 599 = .ok (.iadd, 1) := lw_dk (P := lwP_6) (e := ((599, 1), .iadd, (0, 0), (.null, []), none)) lw_dc_6 (k := 19) rfl
theorem d_law_600 : decode code 600 = .ok (.iaload, 1) := lw_dk (P := lwP_6) (e := ((600, 1), .iaload, (0, 0), (.null, []), none)) lw_dc_6 (k := 20) rfl
theorem d_law_601 : decode code 601 = .ok (.invokevirtual 93, 3) := lw_dk (P := lwP_6) (e := ((601, 3), .invokevirtual 93, (0, 0), (.null, []), none)) lw_dc_6 (k := 21) rfl
theorem d_law_604 : decode code 604 = .ok (.if_icmp .eq 442, 3) := lw_dk (P := lwP_6) (e := ((604, 3), .if_icmp .eq 442, (0, 0), (.null, []), none)) lw_dc_6 (k := 22) rfl
theorem d_law_607 : decode code 607 = .ok (.iconst 0, 1) := lw_dk (P := lwP_6) (e := ((607, 1), .iconst 0, (0, 0), (.null, []), none)) lw_dc_6 (k := 23) rfl
theorem d_law_608 : decode code 608 = .ok (.ireturn, 1) := lw_dk (P := lwP_6) (e := ((608, 1), .ireturn, (0, 0), (.null, []), none)) lw_dc_6 (k := 24) rfl
theorem d_law_609 : decode code 609 = .ok (.aload_n 1, 1) := lw_dk (P := lwP_6) (e := ((609, 1), .aload_n 1, (0, 0), (.null, []), none)) lw_dc_6 (k := 25) rfl
theorem d_law_610 : decode code 610 = .ok (.invokevirtual 94, 3) := lw_dk (P := lwP_6) (e := ((610, 3), .invokevirtual 94, (0, 0), (.null, []), none)) lw_dc_6 (k := 26) rfl
theorem d_law_613 : decode code 613 = .ok (.aload_n 2, 1) := lw_dk (P := lwP_6) (e := ((613, 1), .aload_n 2, (0, 0), (.null, []), none)) lw_dc_6 (k := 27) rfl
theorem d_law_614 : decode code 614 = .ok (.invokevirtual 97, 3) := lw_dk (P := lwP_6) (e := ((614, 3), .invokevirtual 97, (0, 0), (.null, []), none)) lw_dc_6 (k := 28) rfl
theorem d_law_617 : decode code 617 = .ok (.if_icmp .eq 429, 3) := lw_dk (P := lwP_6) (e := ((617, 3), .if_icmp .eq 429, (0, 0), (.null, []), none)) lw_dc_6 (k := 29) rfl
theorem d_law_620 : decode code 620 = .ok (.iconst 0, 1) := lw_dk (P := lwP_6) (e := ((620, 1), .iconst 0, (0, 0), (.null, []), none)) lw_dc_6 (k := 30) rfl
theorem d_law_621 : decode code 621 = .ok (.ireturn, 1) := lw_dk (P := lwP_6) (e := ((621, 1), .ireturn, (0, 0), (.null, []), none)) lw_dc_6 (k := 31) rfl
theorem d_law_622 : decode code 622 = .ok (.aload_n 1, 1) := lw_dk (P := lwP_6) (e := ((622, 1), .aload_n 1, (0, 0), (.null, []), none)) lw_dc_6 (k := 32) rfl
theorem d_law_623 : decode code 623 = .ok (.invokevirtual 98, 3) := lw_dk (P := lwP_6) (e := ((623, 3), .invokevirtual 98, (0, 0), (.null, []), none)) lw_dc_6 (k := 33) rfl
theorem d_law_626 : decode code 626 = .ok (.aload_n 2, 1) := lw_dk (P := lwP_6) (e := ((626, 1), .aload_n 2, (0, 0), (.null, []), none)) lw_dc_6 (k := 34) rfl
theorem d_law_627 : decode code 627 = .ok (.invokevirtual 101, 3) := lw_dk (P := lwP_6) (e := ((627, 3), .invokevirtual 101, (0, 0), (.null, []), none)) lw_dc_6 (k := 35) rfl
theorem d_law_630 : decode code 630 = .ok (.if_icmp .eq 416, 3) := lw_dk (P := lwP_6) (e := ((630, 3), .if_icmp .eq 416, (0, 0), (.null, []), none)) lw_dc_6 (k := 36) rfl
theorem d_law_633 : decode code 633 = .ok (.iconst 0, 1) := lw_dk (P := lwP_6) (e := ((633, 1), .iconst 0, (0, 0), (.null, []), none)) lw_dc_6 (k := 37) rfl
theorem d_law_634 : decode code 634 = .ok (.ireturn, 1) := lw_dk (P := lwP_6) (e := ((634, 1), .ireturn, (0, 0), (.null, []), none)) lw_dc_6 (k := 38) rfl
theorem d_law_635 : decode code 635 = .ok (.aload_n 1, 1) := lw_dk (P := lwP_6) (e := ((635, 1), .aload_n 1, (0, 0), (.null, []), none)) lw_dc_6 (k := 39) rfl
theorem d_law_636 : decode code 636 = .ok (.invokevirtual 102, 3) := lw_dk (P := lwP_6) (e := ((636, 3), .invokevirtual 102, (0, 0), (.null, []), none)) lw_dc_6 (k := 40) rfl
theorem d_law_639 : decode code 639 = .ok (.aload_n 2, 1) := lw_dk (P := lwP_6) (e := ((639, 1), .aload_n 2, (0, 0), (.null, []), none)) lw_dc_6 (k := 41) rfl
theorem d_law_640 : decode code 640 = .ok (.invokevirtual 105, 3) := lw_dk (P := lwP_6) (e := ((640, 3), .invokevirtual 105, (0, 0), (.null, []), none)) lw_dc_6 (k := 42) rfl
theorem d_law_643 : decode code 643 = .ok (.if_icmp .eq 403, 3) := lw_dk (P := lwP_6) (e := ((643, 3), .if_icmp .eq 403, (0, 0), (.null, []), none)) lw_dc_6 (k := 43) rfl
theorem d_law_646 : decode code 646 = .ok (.iconst 0, 1) := lw_dk (P := lwP_6) (e := ((646, 1), .iconst 0, (0, 0), (.null, []), none)) lw_dc_6 (k := 44) rfl
theorem d_law_647 : decode code 647 = .ok (.ireturn, 1) := lw_dk (P := lwP_6) (e := ((647, 1), .ireturn, (0, 0), (.null, []), none)) lw_dc_6 (k := 45) rfl
theorem d_law_648 : decode code 648 = .ok (.aload_n 1, 1) := lw_dk (P := lwP_6) (e := ((648, 1), .aload_n 1, (0, 0), (.null, []), none)) lw_dc_6 (k := 46) rfl
theorem d_law_649 : decode code 649 = .ok (.invokevirtual 106, 3) := lw_dk (P := lwP_6) (e := ((649, 3), .invokevirtual 106, (0, 0), (.null, []), none)) lw_dc_6 (k := 47) rfl
theorem d_law_652 : decode code 652 = .ok (.aload_n 2, 1) := lw_dk (P := lwP_6) (e := ((652, 1), .aload_n 2, (0, 0), (.null, []), none)) lw_dc_6 (k := 48) rfl
theorem d_law_653 : decode code 653 = .ok (.invokevirtual 109, 3) := lw_dk (P := lwP_6) (e := ((653, 3), .invokevirtual 109, (0, 0), (.null, []), none)) lw_dc_6 (k := 49) rfl
theorem d_law_656 : decode code 656 = .ok (.if_icmp .eq 390, 3) := lw_dk (P := lwP_7) (e := ((656, 3), .if_icmp .eq 390, (0, 0), (.null, []), none)) lw_dc_7 (k := 0) rfl
theorem d_law_659 : decode code 659 = .ok (.iconst 0, 1) := lw_dk (P := lwP_7) (e := ((659, 1), .iconst 0, (0, 0), (.null, []), none)) lw_dc_7 (k := 1) rfl
theorem d_law_660 : decode code 660 = .ok (.ireturn, 1) := lw_dk (P := lwP_7) (e := ((660, 1), .ireturn, (0, 0), (.null, []), none)) lw_dc_7 (k := 2) rfl
theorem d_law_661 : decode code 661 = .ok (.aload_n 1, 1) := lw_dk (P := lwP_7) (e := ((661, 1), .aload_n 1, (0, 0), (.null, []), none)) lw_dc_7 (k := 3) rfl
theorem d_law_662 : decode code 662 = .ok (.aload_n 0, 1) := lw_dk (P := lwP_7) (e := ((662, 1), .aload_n 0, (0, 0), (.null, []), none)) lw_dc_7 (k := 4) rfl
theorem d_law_663 : decode code 663 = .ok (.iload_n 3, 1) := lw_dk (P := lwP_7) (e := ((663, 1), .iload_n 3, (0, 0), (.null, []), none)) lw_dc_7 (k := 5) rfl
theorem d_law_664 : decode code 664 = .ok (.iconst 1, 1) := lw_dk (P := lwP_7) (e := ((664, 1), .iconst 1, (0, 0), (.null, []), none)) lw_dc_7 (k := 6) rfl
theorem d_law_665 : decode code 665 = .ok (.iadd, 1) := lw_dk (P := lwP_7) (e := ((665, 1), .iadd, (0, 0), (.null, []), none)) lw_dc_7 (k := 7) rfl
theorem d_law_666 : decode code 666 = .ok (.iaload, 1) := lw_dk (P := lwP_7) (e := ((666, 1), .iaload, (0, 0), (.null, []), none)) lw_dc_7 (k := 8) rfl
theorem d_law_667 : decode code 667 = .ok (.invokevirtual 110, 3) := lw_dk (P := lwP_7) (e := ((667, 3), .invokevirtual 110, (0, 0), (.null, []), none)) lw_dc_7 (k := 9) rfl
theorem d_law_670 : decode code 670 = .ok (.aload_n 2, 1) := lw_dk (P := lwP_7) (e := ((670, 1), .aload_n 2, (0, 0), (.null, []), none)) lw_dc_7 (k := 10) rfl
theorem d_law_671 : decode code 671 = .ok (.aload_n 0, 1) := lw_dk (P := lwP_7) (e := ((671, 1), .aload_n 0, (0, 0), (.null, []), none)) lw_dc_7 (k := 11) rfl
theorem d_law_672 : decode code 672 = .ok (.iload_n 3, 1) := lw_dk (P := lwP_7) (e := ((672, 1), .iload_n 3, (0, 0), (.null, []), none)) lw_dc_7 (k := 12) rfl
theorem d_law_673 : decode code 673 = .ok (.iconst 1, 1) := lw_dk (P := lwP_7) (e := ((673, 1), .iconst 1, (0, 0), (.null, []), none)) lw_dc_7 (k := 13) rfl
theorem d_law_674 : decode code 674 = .ok (.iadd, 1) := lw_dk (P := lwP_7) (e := ((674, 1), .iadd, (0, 0), (.null, []), none)) lw_dc_7 (k := 14) rfl
theorem d_law_675 : decode code 675 = .ok (.iaload, 1) := lw_dk (P := lwP_7) (e := ((675, 1), .iaload, (0, 0), (.null, []), none)) lw_dc_7 (k := 15) rfl
theorem d_law_676 : decode code 676 = .ok (.invokevirtual 113, 3) := lw_dk (P := lwP_7) (e := ((676, 3), .invokevirtual 113, (0, 0), (.null, []), none)) lw_dc_7 (k := 16) rfl
theorem d_law_679 : decode code 679 = .ok (.if_icmp .eq 367, 3) := lw_dk (P := lwP_7) (e := ((679, 3), .if_icmp .eq 367, (0, 0), (.null, []), none)) lw_dc_7 (k := 17) rfl
theorem d_law_682 : decode code 682 = .ok (.iconst 0, 1) := lw_dk (P := lwP_7) (e := ((682, 1), .iconst 0, (0, 0), (.null, []), none)) lw_dc_7 (k := 18) rfl
theorem d_law_683 : decode code 683 = .ok (.ireturn, 1) := lw_dk (P := lwP_7) (e := ((683, 1), .ireturn, (0, 0), (.null, []), none)) lw_dc_7 (k := 19) rfl
theorem d_law_684 : decode code 684 = .ok (.aload_n 1, 1) := lw_dk (P := lwP_7) (e := ((684, 1), .aload_n 1, (0, 0), (.null, []), none)) lw_dc_7 (k := 20) rfl
theorem d_law_685 : decode code 685 = .ok (.aload_n 0, 1) := lw_dk (P := lwP_7) (e := ((685, 1), .aload_n 0, (0, 0), (.null, []), none)) lw_dc_7 (k := 21) rfl
theorem d_law_686 : decode code 686 = .ok (.iload_n 3, 1) := lw_dk (P := lwP_7) (e := ((686, 1), .iload_n 3, (0, 0), (.null, []), none)) lw_dc_7 (k := 22) rfl
theorem d_law_687 : decode code 687 = .ok (.iconst 1, 1) := lw_dk (P := lwP_7) (e := ((687, 1), .iconst 1, (0, 0), (.null, []), none)) lw_dc_7 (k := 23) rfl
theorem d_law_688 : decode code 688 = .ok (.iadd, 1) := lw_dk (P := lwP_7) (e := ((688, 1), .iadd, (0, 0), (.null, []), none)) lw_dc_7 (k := 24) rfl
theorem d_law_689 : decode code 689 = .ok (.iaload, 1) := lw_dk (P := lwP_7) (e := ((689, 1), .iaload, (0, 0), (.null, []), none)) lw_dc_7 (k := 25) rfl
theorem d_law_690 : decode code 690 = .ok (.aload_n 0, 1) := lw_dk (P := lwP_7) (e := ((690, 1), .aload_n 0, (0, 0), (.null, []), none)) lw_dc_7 (k := 26) rfl
theorem d_law_691 : decode code 691 = .ok (.iload_n 3, 1) := lw_dk (P := lwP_7) (e := ((691, 1), .iload_n 3, (0, 0), (.null, []), none)) lw_dc_7 (k := 27) rfl
theorem d_law_692 : decode code 692 = .ok (.iconst 2, 1) := lw_dk (P := lwP_7) (e := ((692, 1), .iconst 2, (0, 0), (.null, []), none)) lw_dc_7 (k := 28) rfl
theorem d_law_693 : decode code 693 = .ok (.iadd, 1) := lw_dk (P := lwP_7) (e := ((693, 1), .iadd, (0, 0), (.null, []), none)) lw_dc_7 (k := 29) rfl
theorem d_law_694 : decode code 694 = .ok (.iaload, 1) := lw_dk (P := lwP_7) (e := ((694, 1), .iaload, (0, 0), (.null, []), none)) lw_dc_7 (k := 30) rfl
theorem d_law_695 : decode code 695 = .ok (.invokevirtual 114, 3) := lw_dk (P := lwP_7) (e := ((695, 3), .invokevirtual 114, (0, 0), (.null, []), none)) lw_dc_7 (k := 31) rfl
theorem d_law_698 : decode code 698 = .ok (.aload_n 2, 1) := lw_dk (P := lwP_7) (e := ((698, 1), .aload_n 2, (0, 0), (.null, []), none)) lw_dc_7 (k := 32) rfl
theorem d_law_699 : decode code 699 = .ok (.aload_n 0, 1) := lw_dk (P := lwP_7) (e := ((699, 1), .aload_n 0, (0, 0), (.null, []), none)) lw_dc_7 (k := 33) rfl
theorem d_law_700 : decode code 700 = .ok (.iload_n 3, 1) := lw_dk (P := lwP_7) (e := ((700, 1), .iload_n 3, (0, 0), (.null, []), none)) lw_dc_7 (k := 34) rfl
theorem d_law_701 : decode code 701 = .ok (.iconst 1, 1) := lw_dk (P := lwP_7) (e := ((701, 1), .iconst 1, (0, 0), (.null, []), none)) lw_dc_7 (k := 35) rfl
theorem d_law_702 : decode code 702 = .ok (.iadd, 1) := lw_dk (P := lwP_7) (e := ((702, 1), .iadd, (0, 0), (.null, []), none)) lw_dc_7 (k := 36) rfl
theorem d_law_703 : decode code 703 = .ok (.iaload, 1) := lw_dk (P := lwP_7) (e := ((703, 1), .iaload, (0, 0), (.null, []), none)) lw_dc_7 (k := 37) rfl
theorem d_law_704 : decode code 704 = .ok (.aload_n 0, 1) := lw_dk (P := lwP_7) (e := ((704, 1), .aload_n 0, (0, 0), (.null, []), none)) lw_dc_7 (k := 38) rfl
theorem d_law_705 : decode code 705 = .ok (.iload_n 3, 1) := lw_dk (P := lwP_7) (e := ((705, 1), .iload_n 3, (0, 0), (.null, []), none)) lw_dc_7 (k := 39) rfl
theorem d_law_706 : decode code 706 = .ok (.iconst 2, 1) := lw_dk (P := lwP_7) (e := ((706, 1), .iconst 2, (0, 0), (.null, []), none)) lw_dc_7 (k := 40) rfl
theorem d_law_707 : decode code 707 = .ok (.iadd, 1) := lw_dk (P := lwP_7) (e := ((707, 1), .iadd, (0, 0), (.null, []), none)) lw_dc_7 (k := 41) rfl
theorem d_law_708 : decode code 708 = .ok (.iaload, 1) := lw_dk (P := lwP_7) (e := ((708, 1), .iaload, (0, 0), (.null, []), none)) lw_dc_7 (k := 42) rfl
theorem d_law_709 : decode code 709 = .ok (.invokevirtual 117, 3) := lw_dk (P := lwP_7) (e := ((709, 3), .invokevirtual 117, (0, 0), (.null, []), none)) lw_dc_7 (k := 43) rfl
theorem d_law_712 : decode code 712 = .ok (.if_icmp .eq 334, 3) := lw_dk (P := lwP_7) (e := ((712, 3), .if_icmp .eq 334, (0, 0), (.null, []), none)) lw_dc_7 (k := 44) rfl
theorem d_law_715 : decode code 715 = .ok (.iconst 0, 1) := lw_dk (P := lwP_7) (e := ((715, 1), .iconst 0, (0, 0), (.null, []), none)) lw_dc_7 (k := 45) rfl
theorem d_law_716 : decode code 716 = .ok (.ireturn, 1) := lw_dk (P := lwP_7) (e := ((716, 1), .ireturn, (0, 0), (.null, []), none)) lw_dc_7 (k := 46) rfl
theorem d_law_717 : decode code 717 = .ok (.aload_n 1, 1) := lw_dk (P := lwP_7) (e := ((717, 1), .aload_n 1, (0, 0), (.null, []), none)) lw_dc_7 (k := 47) rfl
theorem d_law_718 : decode code 718 = .ok (.aload_n 0, 1) := lw_dk (P := lwP_7) (e := ((718, 1), .aload_n 0, (0, 0), (.null, []), none)) lw_dc_7 (k := 48) rfl
theorem d_law_719 : decode code 719 = .ok (.iload_n 3, 1) := lw_dk (P := lwP_7) (e := ((719, 1), .iload_n 3, (0, 0), (.null, []), none)) lw_dc_7 (k := 49) rfl
theorem d_law_720 : decode code 720 = .ok (.iconst 1, 1) := lw_dk (P := lwP_8) (e := ((720, 1), .iconst 1, (0, 0), (.null, []), none)) lw_dc_8 (k := 0) rfl
theorem d_law_721 : decode code 721 = .ok (.iadd, 1) := lw_dk (P := lwP_8) (e := ((721, 1), .iadd, (0, 0), (.null, []), none)) lw_dc_8 (k := 1) rfl
theorem d_law_722 : decode code 722 = .ok (.iaload, 1) := lw_dk (P := lwP_8) (e := ((722, 1), .iaload, (0, 0), (.null, []), none)) lw_dc_8 (k := 2) rfl
theorem d_law_723 : decode code 723 = .ok (.invokevirtual 118, 3) := lw_dk (P := lwP_8) (e := ((723, 3), .invokevirtual 118, (0, 0), (.null, []), none)) lw_dc_8 (k := 3) rfl
theorem d_law_726 : decode code 726 = .ok (.aload_n 2, 1) := lw_dk (P := lwP_8) (e := ((726, 1), .aload_n 2, (0, 0), (.null, []), none)) lw_dc_8 (k := 4) rfl
theorem d_law_727 : decode code 727 = .ok (.aload_n 0, 1) := lw_dk (P := lwP_8) (e := ((727, 1), .aload_n 0, (0, 0), (.null, []), none)) lw_dc_8 (k := 5) rfl
theorem d_law_728 : decode code 728 = .ok (.iload_n 3, 1) := lw_dk (P := lwP_8) (e := ((728, 1), .iload_n 3, (0, 0), (.null, []), none)) lw_dc_8 (k := 6) rfl
theorem d_law_729 : decode code 729 = .ok (.iconst 1, 1) := lw_dk (P := lwP_8) (e := ((729, 1), .iconst 1, (0, 0), (.null, []), none)) lw_dc_8 (k := 7) rfl
theorem d_law_730 : decode code 730 = .ok (.iadd, 1) := lw_dk (P := lwP_8) (e := ((730, 1), .iadd, (0, 0), (.null, []), none)) lw_dc_8 (k := 8) rfl
theorem d_law_731 : decode code 731 = .ok (.iaload, 1) := lw_dk (P := lwP_8) (e := ((731, 1), .iaload, (0, 0), (.null, []), none)) lw_dc_8 (k := 9) rfl
theorem d_law_732 : decode code 732 = .ok (.invokevirtual 121, 3) := lw_dk (P := lwP_8) (e := ((732, 3), .invokevirtual 121, (0, 0), (.null, []), none)) lw_dc_8 (k := 10) rfl
theorem d_law_735 : decode code 735 = .ok (.if_icmp .eq 311, 3) := lw_dk (P := lwP_8) (e := ((735, 3), .if_icmp .eq 311, (0, 0), (.null, []), none)) lw_dc_8 (k := 11) rfl
theorem d_law_738 : decode code 738 = .ok (.iconst 0, 1) := lw_dk (P := lwP_8) (e := ((738, 1), .iconst 0, (0, 0), (.null, []), none)) lw_dc_8 (k := 12) rfl
theorem d_law_739 : decode code 739 = .ok (.ireturn, 1) := lw_dk (P := lwP_8) (e := ((739, 1), .ireturn, (0, 0), (.null, []), none)) lw_dc_8 (k := 13) rfl
theorem d_law_740 : decode code 740 = .ok (.aload_n 1, 1) := lw_dk (P := lwP_8) (e := ((740, 1), .aload_n 1, (0, 0), (.null, []), none)) lw_dc_8 (k := 14) rfl
theorem d_law_741 : decode code 741 = .ok (.aload_n 0, 1) := lw_dk (P := lwP_8) (e := ((741, 1), .aload_n 0, (0, 0), (.null, []), none)) lw_dc_8 (k := 15) rfl
theorem d_law_742 : decode code 742 = .ok (.iload_n 3, 1) := lw_dk (P := lwP_8) (e := ((742, 1), .iload_n 3, (0, 0), (.null, []), none)) lw_dc_8 (k := 16) rfl
theorem d_law_743 : decode code 743 = .ok (.iconst 1, 1) := lw_dk (P := lwP_8) (e := ((743, 1), .iconst 1, (0, 0), (.null, []), none)) lw_dc_8 (k := 17) rfl
theorem d_law_744 : decode code 744 = .ok (.iadd, 1) := lw_dk (P := lwP_8) (e := ((744, 1), .iadd, (0, 0), (.null, []), none)) lw_dc_8 (k := 18) rfl
theorem d_law_745 : decode code 745 = .ok (.iaload, 1) := lw_dk (P := lwP_8) (e := ((745, 1), .iaload, (0, 0), (.null, []), none)) lw_dc_8 (k := 19) rfl
theorem d_law_746 : decode code 746 = .ok (.invokevirtual 122, 3) := lw_dk (P := lwP_8) (e := ((746, 3), .invokevirtual 122, (0, 0), (.null, []), none)) lw_dc_8 (k := 20) rfl
theorem d_law_749 : decode code 749 = .ok (.aload_n 2, 1) := lw_dk (P := lwP_8) (e := ((749, 1), .aload_n 2, (0, 0), (.null, []), none)) lw_dc_8 (k := 21) rfl
theorem d_law_750 : decode code 750 = .ok (.aload_n 0, 1) := lw_dk (P := lwP_8) (e := ((750, 1), .aload_n 0, (0, 0), (.null, []), none)) lw_dc_8 (k := 22) rfl
theorem d_law_751 : decode code 751 = .ok (.iload_n 3, 1) := lw_dk (P := lwP_8) (e := ((751, 1), .iload_n 3, (0, 0), (.null, []), none)) lw_dc_8 (k := 23) rfl
theorem d_law_752 : decode code 752 = .ok (.iconst 1, 1) := lw_dk (P := lwP_8) (e := ((752, 1), .iconst 1, (0, 0), (.null, []), none)) lw_dc_8 (k := 24) rfl
theorem d_law_753 : decode code 753 = .ok (.iadd, 1) := lw_dk (P := lwP_8) (e := ((753, 1), .iadd, (0, 0), (.null, []), none)) lw_dc_8 (k := 25) rfl
theorem d_law_754 : decode code 754 = .ok (.iaload, 1) := lw_dk (P := lwP_8) (e := ((754, 1), .iaload, (0, 0), (.null, []), none)) lw_dc_8 (k := 26) rfl
theorem d_law_755 : decode code 755 = .ok (.invokevirtual 125, 3) := lw_dk (P := lwP_8) (e := ((755, 3), .invokevirtual 125, (0, 0), (.null, []), none)) lw_dc_8 (k := 27) rfl
theorem d_law_758 : decode code 758 = .ok (.if_icmp .eq 288, 3) := lw_dk (P := lwP_8) (e := ((758, 3), .if_icmp .eq 288, (0, 0), (.null, []), none)) lw_dc_8 (k := 28) rfl
theorem d_law_761 : decode code 761 = .ok (.iconst 0, 1) := lw_dk (P := lwP_8) (e := ((761, 1), .iconst 0, (0, 0), (.null, []), none)) lw_dc_8 (k := 29) rfl
theorem d_law_762 : decode code 762 = .ok (.ireturn, 1) := lw_dk (P := lwP_8) (e := ((762, 1), .ireturn, (0, 0), (.null, []), none)) lw_dc_8 (k := 30) rfl
theorem d_law_763 : decode code 763 = .ok (.aload_n 1, 1) := lw_dk (P := lwP_8) (e := ((763, 1), .aload_n 1, (0, 0), (.null, []), none)) lw_dc_8 (k := 31) rfl
theorem d_law_764 : decode code 764 = .ok (.aload_n 0, 1) := lw_dk (P := lwP_8) (e := ((764, 1), .aload_n 0, (0, 0), (.null, []), none)) lw_dc_8 (k := 32) rfl
theorem d_law_765 : decode code 765 = .ok (.iload_n 3, 1) := lw_dk (P := lwP_8) (e := ((765, 1), .iload_n 3, (0, 0), (.null, []), none)) lw_dc_8 (k := 33) rfl
theorem d_law_766 : decode code 766 = .ok (.iconst 1, 1) := lw_dk (P := lwP_8) (e := ((766, 1), .iconst 1, (0, 0), (.null, []), none)) lw_dc_8 (k := 34) rfl
theorem d_law_767 : decode code 767 = .ok (.iadd, 1) := lw_dk (P := lwP_8) (e := ((767, 1), .iadd, (0, 0), (.null, []), none)) lw_dc_8 (k := 35) rfl
theorem d_law_768 : decode code 768 = .ok (.iaload, 1) := lw_dk (P := lwP_8) (e := ((768, 1), .iaload, (0, 0), (.null, []), none)) lw_dc_8 (k := 36) rfl
theorem d_law_769 : decode code 769 = .ok (.invokevirtual 126, 3) := lw_dk (P := lwP_8) (e := ((769, 3), .invokevirtual 126, (0, 0), (.null, []), none)) lw_dc_8 (k := 37) rfl
theorem d_law_772 : decode code 772 = .ok (.aload_n 2, 1) := lw_dk (P := lwP_8) (e := ((772, 1), .aload_n 2, (0, 0), (.null, []), none)) lw_dc_8 (k := 38) rfl
theorem d_law_773 : decode code 773 = .ok (.aload_n 0, 1) := lw_dk (P := lwP_8) (e := ((773, 1), .aload_n 0, (0, 0), (.null, []), none)) lw_dc_8 (k := 39) rfl
theorem d_law_774 : decode code 774 = .ok (.iload_n 3, 1) := lw_dk (P := lwP_8) (e := ((774, 1), .iload_n 3, (0, 0), (.null, []), none)) lw_dc_8 (k := 40) rfl
theorem d_law_775 : decode code 775 = .ok (.iconst 1, 1) := lw_dk (P := lwP_8) (e := ((775, 1), .iconst 1, (0, 0), (.null, []), none)) lw_dc_8 (k := 41) rfl
theorem d_law_776 : decode code 776 = .ok (.iadd, 1) := lw_dk (P := lwP_8) (e := ((776, 1), .iadd, (0, 0), (.null, []), none)) lw_dc_8 (k := 42) rfl
theorem d_law_777 : decode code 777 = .ok (.iaload, 1) := lw_dk (P := lwP_8) (e := ((777, 1), .iaload, (0, 0), (.null, []), none)) lw_dc_8 (k := 43) rfl
theorem d_law_778 : decode code 778 = .ok (.invokevirtual 129, 3) := lw_dk (P := lwP_8) (e := ((778, 3), .invokevirtual 129, (0, 0), (.null, []), none)) lw_dc_8 (k := 44) rfl
theorem d_law_781 : decode code 781 = .ok (.if_icmp .eq 265, 3) := lw_dk (P := lwP_8) (e := ((781, 3), .if_icmp .eq 265, (0, 0), (.null, []), none)) lw_dc_8 (k := 45) rfl
theorem d_law_784 : decode code 784 = .ok (.iconst 0, 1) := lw_dk (P := lwP_8) (e := ((784, 1), .iconst 0, (0, 0), (.null, []), none)) lw_dc_8 (k := 46) rfl
theorem d_law_785 : decode code 785 = .ok (.ireturn, 1) := lw_dk (P := lwP_8) (e := ((785, 1), .ireturn, (0, 0), (.null, []), none)) lw_dc_8 (k := 47) rfl
theorem d_law_786 : decode code 786 = .ok (.aload_n 1, 1) := lw_dk (P := lwP_8) (e := ((786, 1), .aload_n 1, (0, 0), (.null, []), none)) lw_dc_8 (k := 48) rfl
theorem d_law_787 : decode code 787 = .ok (.aload_n 0, 1) := lw_dk (P := lwP_8) (e := ((787, 1), .aload_n 0, (0, 0), (.null, []), none)) lw_dc_8 (k := 49) rfl
theorem d_law_788 : decode code 788 = .ok (.iload_n 3, 1) := lw_dk (P := lwP_9) (e := ((788, 1), .iload_n 3, (0, 0), (.null, []), none)) lw_dc_9 (k := 0) rfl
theorem d_law_789 : decode code 789 = .ok (.iconst 1, 1) := lw_dk (P := lwP_9) (e := ((789, 1), .iconst 1, (0, 0), (.null, []), none)) lw_dc_9 (k := 1) rfl
theorem d_law_790 : decode code 790 = .ok (.iadd, 1) := lw_dk (P := lwP_9) (e := ((790, 1), .iadd, (0, 0), (.null, []), none)) lw_dc_9 (k := 2) rfl
theorem d_law_791 : decode code 791 = .ok (.iaload, 1) := lw_dk (P := lwP_9) (e := ((791, 1), .iaload, (0, 0), (.null, []), none)) lw_dc_9 (k := 3) rfl
theorem d_law_792 : decode code 792 = .ok (.aload_n 0, 1) := lw_dk (P := lwP_9) (e := ((792, 1), .aload_n 0, (0, 0), (.null, []), none)) lw_dc_9 (k := 4) rfl
theorem d_law_793 : decode code 793 = .ok (.iload_n 3, 1) := lw_dk (P := lwP_9) (e := ((793, 1), .iload_n 3, (0, 0), (.null, []), none)) lw_dc_9 (k := 5) rfl
theorem d_law_794 : decode code 794 = .ok (.iconst 2, 1) := lw_dk (P := lwP_9) (e := ((794, 1), .iconst 2, (0, 0), (.null, []), none)) lw_dc_9 (k := 6) rfl
theorem d_law_795 : decode code 795 = .ok (.iadd, 1) := lw_dk (P := lwP_9) (e := ((795, 1), .iadd, (0, 0), (.null, []), none)) lw_dc_9 (k := 7) rfl
theorem d_law_796 : decode code 796 = .ok (.iaload, 1) := lw_dk (P := lwP_9) (e := ((796, 1), .iaload, (0, 0), (.null, []), none)) lw_dc_9 (k := 8) rfl
theorem d_law_797 : decode code 797 = .ok (.invokevirtual 130, 3) := lw_dk (P := lwP_9) (e := ((797, 3), .invokevirtual 130, (0, 0), (.null, []), none)) lw_dc_9 (k := 9) rfl
theorem d_law_800 : decode code 800 = .ok (.aload_n 2, 1) := lw_dk (P := lwP_9) (e := ((800, 1), .aload_n 2, (0, 0), (.null, []), none)) lw_dc_9 (k := 10) rfl
theorem d_law_801 : decode code 801 = .ok (.aload_n 0, 1) := lw_dk (P := lwP_9) (e := ((801, 1), .aload_n 0, (0, 0), (.null, []), none)) lw_dc_9 (k := 11) rfl
theorem d_law_802 : decode code 802 = .ok (.iload_n 3, 1) := lw_dk (P := lwP_9) (e := ((802, 1), .iload_n 3, (0, 0), (.null, []), none)) lw_dc_9 (k := 12) rfl
theorem d_law_803 : decode code 803 = .ok (.iconst 1, 1) := lw_dk (P := lwP_9) (e := ((803, 1), .iconst 1, (0, 0), (.null, []), none)) lw_dc_9 (k := 13) rfl
theorem d_law_804 : decode code 804 = .ok (.iadd, 1) := lw_dk (P := lwP_9) (e := ((804, 1), .iadd, (0, 0), (.null, []), none)) lw_dc_9 (k := 14) rfl
theorem d_law_805 : decode code 805 = .ok (.iaload, 1) := lw_dk (P := lwP_9) (e := ((805, 1), .iaload, (0, 0), (.null, []), none)) lw_dc_9 (k := 15) rfl
theorem d_law_806 : decode code 806 = .ok (.aload_n 0, 1) := lw_dk (P := lwP_9) (e := ((806, 1), .aload_n 0, (0, 0), (.null, []), none)) lw_dc_9 (k := 16) rfl
theorem d_law_807 : decode code 807 = .ok (.iload_n 3, 1) := lw_dk (P := lwP_9) (e := ((807, 1), .iload_n 3, (0, 0), (.null, []), none)) lw_dc_9 (k := 17) rfl
theorem d_law_808 : decode code 808 = .ok (.iconst 2, 1) := lw_dk (P := lwP_9) (e := ((808, 1), .iconst 2, (0, 0), (.null, []), none)) lw_dc_9 (k := 18) rfl
theorem d_law_809 : decode code 809 = .ok (.iadd, 1) := lw_dk (P := lwP_9) (e := ((809, 1), .iadd, (0, 0), (.null, []), none)) lw_dc_9 (k := 19) rfl
theorem d_law_810 : decode code 810 = .ok (.iaload, 1) := lw_dk (P := lwP_9) (e := ((810, 1), .iaload, (0, 0), (.null, []), none)) lw_dc_9 (k := 20) rfl
theorem d_law_811 : decode code 811 = .ok (.invokevirtual 133, 3) := lw_dk (P := lwP_9) (e := ((811, 3), .invokevirtual 133, (0, 0), (.null, []), none)) lw_dc_9 (k := 21) rfl
theorem d_law_814 : decode code 814 = .ok (.if_icmp .eq 232, 3) := lw_dk (P := lwP_9) (e := ((814, 3), .if_icmp .eq 232, (0, 0), (.null, []), none)) lw_dc_9 (k := 22) rfl
theorem d_law_817 : decode code 817 = .ok (.iconst 0, 1) := lw_dk (P := lwP_9) (e := ((817, 1), .iconst 0, (0, 0), (.null, []), none)) lw_dc_9 (k := 23) rfl
theorem d_law_818 : decode code 818 = .ok (.ireturn, 1) := lw_dk (P := lwP_9) (e := ((818, 1), .ireturn, (0, 0), (.null, []), none)) lw_dc_9 (k := 24) rfl
theorem d_law_819 : decode code 819 = .ok (.aload_n 1, 1) := lw_dk (P := lwP_9) (e := ((819, 1), .aload_n 1, (0, 0), (.null, []), none)) lw_dc_9 (k := 25) rfl
theorem d_law_820 : decode code 820 = .ok (.aload_n 0, 1) := lw_dk (P := lwP_9) (e := ((820, 1), .aload_n 0, (0, 0), (.null, []), none)) lw_dc_9 (k := 26) rfl
theorem d_law_821 : decode code 821 = .ok (.iload_n 3, 1) := lw_dk (P := lwP_9) (e := ((821, 1), .iload_n 3, (0, 0), (.null, []), none)) lw_dc_9 (k := 27) rfl
theorem d_law_822 : decode code 822 = .ok (.iconst 1, 1) := lw_dk (P := lwP_9) (e := ((822, 1), .iconst 1, (0, 0), (.null, []), none)) lw_dc_9 (k := 28) rfl
theorem d_law_823 : decode code 823 = .ok (.iadd, 1) := lw_dk (P := lwP_9) (e := ((823, 1), .iadd, (0, 0), (.null, []), none)) lw_dc_9 (k := 29) rfl
theorem d_law_824 : decode code 824 = .ok (.iaload, 1) := lw_dk (P := lwP_9) (e := ((824, 1), .iaload, (0, 0), (.null, []), none)) lw_dc_9 (k := 30) rfl
theorem d_law_825 : decode code 825 = .ok (.aload_n 0, 1) := lw_dk (P := lwP_9) (e := ((825, 1), .aload_n 0, (0, 0), (.null, []), none)) lw_dc_9 (k := 31) rfl
theorem d_law_826 : decode code 826 = .ok (.iload_n 3, 1) := lw_dk (P := lwP_9) (e := ((826, 1), .iload_n 3, (0, 0), (.null, []), none)) lw_dc_9 (k := 32) rfl
theorem d_law_827 : decode code 827 = .ok (.iconst 2, 1) := lw_dk (P := lwP_9) (e := ((827, 1), .iconst 2, (0, 0), (.null, []), none)) lw_dc_9 (k := 33) rfl
theorem d_law_828 : decode code 828 = .ok (.iadd, 1) := lw_dk (P := lwP_9) (e := ((828, 1), .iadd, (0, 0), (.null, []), none)) lw_dc_9 (k := 34) rfl
theorem d_law_829 : decode code 829 = .ok (.iaload, 1) := lw_dk (P := lwP_9) (e := ((829, 1), .iaload, (0, 0), (.null, []), none)) lw_dc_9 (k := 35) rfl
theorem d_law_830 : decode code 830 = .ok (.aload_n 0, 1) := lw_dk (P := lwP_9) (e := ((830, 1), .aload_n 0, (0, 0), (.null, []), none)) lw_dc_9 (k := 36) rfl
theorem d_law_831 : decode code 831 = .ok (.iload_n 3, 1) := lw_dk (P := lwP_9) (e := ((831, 1), .iload_n 3, (0, 0), (.null, []), none)) lw_dc_9 (k := 37) rfl
theorem d_law_832 : decode code 832 = .ok (.iconst 3, 1) := lw_dk (P := lwP_9) (e := ((832, 1), .iconst 3, (0, 0), (.null, []), none)) lw_dc_9 (k := 38) rfl
theorem d_law_833 : decode code 833 = .ok (.iadd, 1) := lw_dk (P := lwP_9) (e := ((833, 1), .iadd, (0, 0), (.null, []), none)) lw_dc_9 (k := 39) rfl
theorem d_law_834 : decode code 834 = .ok (.iaload, 1) := lw_dk (P := lwP_9) (e := ((834, 1), .iaload, (0, 0), (.null, []), none)) lw_dc_9 (k := 40) rfl
theorem d_law_835 : decode code 835 = .ok (.ifCond .eq 7, 3) := lw_dk (P := lwP_9) (e := ((835, 3), .ifCond .eq 7, (0, 0), (.null, []), none)) lw_dc_9 (k := 41) rfl
theorem d_law_838 : decode code 838 = .ok (.iconst 1, 1) := lw_dk (P := lwP_9) (e := ((838, 1), .iconst 1, (0, 0), (.null, []), none)) lw_dc_9 (k := 42) rfl
theorem d_law_839 : decode code 839 = .ok (.goto 4, 3) := lw_dk (P := lwP_9) (e := ((839, 3), .goto 4, (0, 0), (.null, []), none)) lw_dc_9 (k := 43) rfl
theorem d_law_842 : decode code 842 = .ok (.iconst 0, 1) := lw_dk (P := lwP_9) (e := ((842, 1), .iconst 0, (0, 0), (.null, []), none)) lw_dc_9 (k := 44) rfl
theorem d_law_843 : decode code 843 = .ok (.invokevirtual 134, 3) := lw_dk (P := lwP_9) (e := ((843, 3), .invokevirtual 134, (0, 0), (.null, []), none)) lw_dc_9 (k := 45) rfl
theorem d_law_846 : decode code 846 = .ok (.aload_n 2, 1) := lw_dk (P := lwP_9) (e := ((846, 1), .aload_n 2, (0, 0), (.null, []), none)) lw_dc_9 (k := 46) rfl
theorem d_law_847 : decode code 847 = .ok (.aload_n 0, 1) := lw_dk (P := lwP_9) (e := ((847, 1), .aload_n 0, (0, 0), (.null, []), none)) lw_dc_9 (k := 47) rfl
theorem d_law_848 : decode code 848 = .ok (.iload_n 3, 1) := lw_dk (P := lwP_9) (e := ((848, 1), .iload_n 3, (0, 0), (.null, []), none)) lw_dc_9 (k := 48) rfl
theorem d_law_849 : decode code 849 = .ok (.iconst 1, 1) := lw_dk (P := lwP_9) (e := ((849, 1), .iconst 1, (0, 0), (.null, []), none)) lw_dc_9 (k := 49) rfl
theorem d_law_850 : decode code 850 = .ok (.iadd, 1) := lw_dk (P := lwP_10) (e := ((850, 1), .iadd, (0, 0), (.null, []), none)) lw_dc_10 (k := 0) rfl
theorem d_law_851 : decode code 851 = .ok (.iaload, 1) := lw_dk (P := lwP_10) (e := ((851, 1), .iaload, (0, 0), (.null, []), none)) lw_dc_10 (k := 1) rfl
theorem d_law_852 : decode code 852 = .ok (.aload_n 0, 1) := lw_dk (P := lwP_10) (e := ((852, 1), .aload_n 0, (0, 0), (.null, []), none)) lw_dc_10 (k := 2) rfl
theorem d_law_853 : decode code 853 = .ok (.iload_n 3, 1) := lw_dk (P := lwP_10) (e := ((853, 1), .iload_n 3, (0, 0), (.null, []), none)) lw_dc_10 (k := 3) rfl
theorem d_law_854 : decode code 854 = .ok (.iconst 2, 1) := lw_dk (P := lwP_10) (e := ((854, 1), .iconst 2, (0, 0), (.null, []), none)) lw_dc_10 (k := 4) rfl
theorem d_law_855 : decode code 855 = .ok (.iadd, 1) := lw_dk (P := lwP_10) (e := ((855, 1), .iadd, (0, 0), (.null, []), none)) lw_dc_10 (k := 5) rfl
theorem d_law_856 : decode code 856 = .ok (.iaload, 1) := lw_dk (P := lwP_10) (e := ((856, 1), .iaload, (0, 0), (.null, []), none)) lw_dc_10 (k := 6) rfl
theorem d_law_857 : decode code 857 = .ok (.aload_n 0, 1) := lw_dk (P := lwP_10) (e := ((857, 1), .aload_n 0, (0, 0), (.null, []), none)) lw_dc_10 (k := 7) rfl
theorem d_law_858 : decode code 858 = .ok (.iload_n 3, 1) := lw_dk (P := lwP_10) (e := ((858, 1), .iload_n 3, (0, 0), (.null, []), none)) lw_dc_10 (k := 8) rfl
theorem d_law_859 : decode code 859 = .ok (.iconst 3, 1) := lw_dk (P := lwP_10) (e := ((859, 1), .iconst 3, (0, 0), (.null, []), none)) lw_dc_10 (k := 9) rfl
theorem d_law_860 : decode code 860 = .ok (.iadd, 1) := lw_dk (P := lwP_10) (e := ((860, 1), .iadd, (0, 0), (.null, []), none)) lw_dc_10 (k := 10) rfl
theorem d_law_861 : decode code 861 = .ok (.iaload, 1) := lw_dk (P := lwP_10) (e := ((861, 1), .iaload, (0, 0), (.null, []), none)) lw_dc_10 (k := 11) rfl
theorem d_law_862 : decode code 862 = .ok (.ifCond .eq 7, 3) := lw_dk (P := lwP_10) (e := ((862, 3), .ifCond .eq 7, (0, 0), (.null, []), none)) lw_dc_10 (k := 12) rfl
theorem d_law_865 : decode code 865 = .ok (.iconst 1, 1) := lw_dk (P := lwP_10) (e := ((865, 1), .iconst 1, (0, 0), (.null, []), none)) lw_dc_10 (k := 13) rfl
theorem d_law_866 : decode code 866 = .ok (.goto 4, 3) := lw_dk (P := lwP_10) (e := ((866, 3), .goto 4, (0, 0), (.null, []), none)) lw_dc_10 (k := 14) rfl
theorem d_law_869 : decode code 869 = .ok (.iconst 0, 1) := lw_dk (P := lwP_10) (e := ((869, 1), .iconst 0, (0, 0), (.null, []), none)) lw_dc_10 (k := 15) rfl
theorem d_law_870 : decode code 870 = .ok (.invokevirtual 138, 3) := lw_dk (P := lwP_10) (e := ((870, 3), .invokevirtual 138, (0, 0), (.null, []), none)) lw_dc_10 (k := 16) rfl
theorem d_law_873 : decode code 873 = .ok (.if_icmp .eq 173, 3) := lw_dk (P := lwP_10) (e := ((873, 3), .if_icmp .eq 173, (0, 0), (.null, []), none)) lw_dc_10 (k := 17) rfl
theorem d_law_876 : decode code 876 = .ok (.iconst 0, 1) := lw_dk (P := lwP_10) (e := ((876, 1), .iconst 0, (0, 0), (.null, []), none)) lw_dc_10 (k := 18) rfl
theorem d_law_877 : decode code 877 = .ok (.ireturn, 1) := lw_dk (P := lwP_10) (e := ((877, 1), .ireturn, (0, 0), (.null, []), none)) lw_dc_10 (k := 19) rfl
theorem d_law_878 : decode code 878 = .ok (.aload_n 1, 1) := lw_dk (P := lwP_10) (e := ((878, 1), .aload_n 1, (0, 0), (.null, []), none)) lw_dc_10 (k := 20) rfl
theorem d_law_879 : decode code 879 = .ok (.invokevirtual 139, 3) := lw_dk (P := lwP_10) (e := ((879, 3), .invokevirtual 139, (0, 0), (.null, []), none)) lw_dc_10 (k := 21) rfl
theorem d_law_882 : decode code 882 = .ok (.aload_n 2, 1) := lw_dk (P := lwP_10) (e := ((882, 1), .aload_n 2, (0, 0), (.null, []), none)) lw_dc_10 (k := 22) rfl
theorem d_law_883 : decode code 883 = .ok (.invokevirtual 142, 3) := lw_dk (P := lwP_10) (e := ((883, 3), .invokevirtual 142, (0, 0), (.null, []), none)) lw_dc_10 (k := 23) rfl
theorem d_law_886 : decode code 886 = .ok (.if_icmp .eq 160, 3) := lw_dk (P := lwP_10) (e := ((886, 3), .if_icmp .eq 160, (0, 0), (.null, []), none)) lw_dc_10 (k := 24) rfl
theorem d_law_889 : decode code 889 = .ok (.iconst 0, 1) := lw_dk (P := lwP_10) (e := ((889, 1), .iconst 0, (0, 0), (.null, []), none)) lw_dc_10 (k := 25) rfl
theorem d_law_890 : decode code 890 = .ok (.ireturn, 1) := lw_dk (P := lwP_10) (e := ((890, 1), .ireturn, (0, 0), (.null, []), none)) lw_dc_10 (k := 26) rfl
theorem d_law_891 : decode code 891 = .ok (.aload_n 1, 1) := lw_dk (P := lwP_10) (e := ((891, 1), .aload_n 1, (0, 0), (.null, []), none)) lw_dc_10 (k := 27) rfl
theorem d_law_892 : decode code 892 = .ok (.aload_n 0, 1) := lw_dk (P := lwP_10) (e := ((892, 1), .aload_n 0, (0, 0), (.null, []), none)) lw_dc_10 (k := 28) rfl
theorem d_law_893 : decode code 893 = .ok (.iload_n 3, 1) := lw_dk (P := lwP_10) (e := ((893, 1), .iload_n 3, (0, 0), (.null, []), none)) lw_dc_10 (k := 29) rfl
theorem d_law_894 : decode code 894 = .ok (.iconst 1, 1) := lw_dk (P := lwP_10) (e := ((894, 1), .iconst 1, (0, 0), (.null, []), none)) lw_dc_10 (k := 30) rfl
theorem d_law_895 : decode code 895 = .ok (.iadd, 1) := lw_dk (P := lwP_10) (e := ((895, 1), .iadd, (0, 0), (.null, []), none)) lw_dc_10 (k := 31) rfl
theorem d_law_896 : decode code 896 = .ok (.iaload, 1) := lw_dk (P := lwP_10) (e := ((896, 1), .iaload, (0, 0), (.null, []), none)) lw_dc_10 (k := 32) rfl
theorem d_law_897 : decode code 897 = .ok (.aload_n 0, 1) := lw_dk (P := lwP_10) (e := ((897, 1), .aload_n 0, (0, 0), (.null, []), none)) lw_dc_10 (k := 33) rfl
theorem d_law_898 : decode code 898 = .ok (.iload_n 3, 1) := lw_dk (P := lwP_10) (e := ((898, 1), .iload_n 3, (0, 0), (.null, []), none)) lw_dc_10 (k := 34) rfl
theorem d_law_899 : decode code 899 = .ok (.iconst 2, 1) := lw_dk (P := lwP_10) (e := ((899, 1), .iconst 2, (0, 0), (.null, []), none)) lw_dc_10 (k := 35) rfl
theorem d_law_900 : decode code 900 = .ok (.iadd, 1) := lw_dk (P := lwP_10) (e := ((900, 1), .iadd, (0, 0), (.null, []), none)) lw_dc_10 (k := 36) rfl
theorem d_law_901 : decode code 901 = .ok (.iaload, 1) := lw_dk (P := lwP_10) (e := ((901, 1), .iaload, (0, 0), (.null, []), none)) lw_dc_10 (k := 37) rfl
theorem d_law_902 : decode code 902 = .ok (.aload_n 0, 1) := lw_dk (P := lwP_10) (e := ((902, 1), .aload_n 0, (0, 0), (.null, []), none)) lw_dc_10 (k := 38) rfl
theorem d_law_903 : decode code 903 = .ok (.iload_n 3, 1) := lw_dk (P := lwP_10) (e := ((903, 1), .iload_n 3, (0, 0), (.null, []), none)) lw_dc_10 (k := 39) rfl
theorem d_law_904 : decode code 904 = .ok (.iconst 3, 1) := lw_dk (P := lwP_10) (e := ((904, 1), .iconst 3, (0, 0), (.null, []), none)) lw_dc_10 (k := 40) rfl
theorem d_law_905 : decode code 905 = .ok (.iadd, 1) := lw_dk (P := lwP_10) (e := ((905, 1), .iadd, (0, 0), (.null, []), none)) lw_dc_10 (k := 41) rfl
theorem d_law_906 : decode code 906 = .ok (.iaload, 1) := lw_dk (P := lwP_10) (e := ((906, 1), .iaload, (0, 0), (.null, []), none)) lw_dc_10 (k := 42) rfl
theorem d_law_907 : decode code 907 = .ok (.invokevirtual 143, 3) := lw_dk (P := lwP_10) (e := ((907, 3), .invokevirtual 143, (0, 0), (.null, []), none)) lw_dc_10 (k := 43) rfl
theorem d_law_910 : decode code 910 = .ok (.aload_n 2, 1) := lw_dk (P := lwP_10) (e := ((910, 1), .aload_n 2, (0, 0), (.null, []), none)) lw_dc_10 (k := 44) rfl
theorem d_law_911 : decode code 911 = .ok (.aload_n 0, 1) := lw_dk (P := lwP_10) (e := ((911, 1), .aload_n 0, (0, 0), (.null, []), none)) lw_dc_10 (k := 45) rfl
theorem d_law_912 : decode code 912 = .ok (.iload_n 3, 1) := lw_dk (P := lwP_10) (e := ((912, 1), .iload_n 3, (0, 0), (.null, []), none)) lw_dc_10 (k := 46) rfl
theorem d_law_913 : decode code 913 = .ok (.iconst 1, 1) := lw_dk (P := lwP_10) (e := ((913, 1), .iconst 1, (0, 0), (.null, []), none)) lw_dc_10 (k := 47) rfl
theorem d_law_914 : decode code 914 = .ok (.iadd, 1) := lw_dk (P := lwP_10) (e := ((914, 1), .iadd, (0, 0), (.null, []), none)) lw_dc_10 (k := 48) rfl
theorem d_law_915 : decode code 915 = .ok (.iaload, 1) := lw_dk (P := lwP_10) (e := ((915, 1), .iaload, (0, 0), (.null, []), none)) lw_dc_10 (k := 49) rfl
theorem d_law_916 : decode code 916 = .ok (.aload_n 0, 1) := lw_dk (P := lwP_11) (e := ((916, 1), .aload_n 0, (0, 0), (.null, []), none)) lw_dc_11 (k := 0) rfl
theorem d_law_917 : decode code 917 = .ok (.iload_n 3, 1) := lw_dk (P := lwP_11) (e := ((917, 1), .iload_n 3, (0, 0), (.null, []), none)) lw_dc_11 (k := 1) rfl
theorem d_law_918 : decode code 918 = .ok (.iconst 2, 1) := lw_dk (P := lwP_11) (e := ((918, 1), .iconst 2, (0, 0), (.null, []), none)) lw_dc_11 (k := 2) rfl
theorem d_law_919 : decode code 919 = .ok (.iadd, 1) := lw_dk (P := lwP_11) (e := ((919, 1), .iadd, (0, 0), (.null, []), none)) lw_dc_11 (k := 3) rfl
theorem d_law_920 : decode code 920 = .ok (.iaload, 1) := lw_dk (P := lwP_11) (e := ((920, 1), .iaload, (0, 0), (.null, []), none)) lw_dc_11 (k := 4) rfl
theorem d_law_921 : decode code 921 = .ok (.aload_n 0, 1) := lw_dk (P := lwP_11) (e := ((921, 1), .aload_n 0, (0, 0), (.null, []), none)) lw_dc_11 (k := 5) rfl
theorem d_law_922 : decode code 922 = .ok (.iload_n 3, 1) := lw_dk (P := lwP_11) (e := ((922, 1), .iload_n 3, (0, 0), (.null, []), none)) lw_dc_11 (k := 6) rfl
theorem d_law_923 : decode code 923 = .ok (.iconst 3, 1) := lw_dk (P := lwP_11) (e := ((923, 1), .iconst 3, (0, 0), (.null, []), none)) lw_dc_11 (k := 7) rfl
theorem d_law_924 : decode code 924 = .ok (.iadd, 1) := lw_dk (P := lwP_11) (e := ((924, 1), .iadd, (0, 0), (.null, []), none)) lw_dc_11 (k := 8) rfl
theorem d_law_925 : decode code 925 = .ok (.iaload, 1) := lw_dk (P := lwP_11) (e := ((925, 1), .iaload, (0, 0), (.null, []), none)) lw_dc_11 (k := 9) rfl
theorem d_law_926 : decode code 926 = .ok (.invokevirtual 147, 3) := lw_dk (P := lwP_11) (e := ((926, 3), .invokevirtual 147, (0, 0), (.null, []), none)) lw_dc_11 (k := 10) rfl
theorem d_law_929 : decode code 929 = .ok (.if_icmp .eq 117, 3) := lw_dk (P := lwP_11) (e := ((929, 3), .if_icmp .eq 117, (0, 0), (.null, []), none)) lw_dc_11 (k := 11) rfl
theorem d_law_932 : decode code 932 = .ok (.iconst 0, 1) := lw_dk (P := lwP_11) (e := ((932, 1), .iconst 0, (0, 0), (.null, []), none)) lw_dc_11 (k := 12) rfl
theorem d_law_933 : decode code 933 = .ok (.ireturn, 1) := lw_dk (P := lwP_11) (e := ((933, 1), .ireturn, (0, 0), (.null, []), none)) lw_dc_11 (k := 13) rfl
theorem d_law_934 : decode code 934 = .ok (.aload_n 1, 1) := lw_dk (P := lwP_11) (e := ((934, 1), .aload_n 1, (0, 0), (.null, []), none)) lw_dc_11 (k := 14) rfl
theorem d_law_935 : decode code 935 = .ok (.aload_n 0, 1) := lw_dk (P := lwP_11) (e := ((935, 1), .aload_n 0, (0, 0), (.null, []), none)) lw_dc_11 (k := 15) rfl
theorem d_law_936 : decode code 936 = .ok (.iload_n 3, 1) := lw_dk (P := lwP_11) (e := ((936, 1), .iload_n 3, (0, 0), (.null, []), none)) lw_dc_11 (k := 16) rfl
theorem d_law_937 : decode code 937 = .ok (.iconst 1, 1) := lw_dk (P := lwP_11) (e := ((937, 1), .iconst 1, (0, 0), (.null, []), none)) lw_dc_11 (k := 17) rfl
theorem d_law_938 : decode code 938 = .ok (.iadd, 1) := lw_dk (P := lwP_11) (e := ((938, 1), .iadd, (0, 0), (.null, []), none)) lw_dc_11 (k := 18) rfl
theorem d_law_939 : decode code 939 = .ok (.iaload, 1) := lw_dk (P := lwP_11) (e := ((939, 1), .iaload, (0, 0), (.null, []), none)) lw_dc_11 (k := 19) rfl
theorem d_law_940 : decode code 940 = .ok (.aload_n 0, 1) := lw_dk (P := lwP_11) (e := ((940, 1), .aload_n 0, (0, 0), (.null, []), none)) lw_dc_11 (k := 20) rfl
theorem d_law_941 : decode code 941 = .ok (.iload_n 3, 1) := lw_dk (P := lwP_11) (e := ((941, 1), .iload_n 3, (0, 0), (.null, []), none)) lw_dc_11 (k := 21) rfl
theorem d_law_942 : decode code 942 = .ok (.iconst 2, 1) := lw_dk (P := lwP_11) (e := ((942, 1), .iconst 2, (0, 0), (.null, []), none)) lw_dc_11 (k := 22) rfl
theorem d_law_943 : decode code 943 = .ok (.iadd, 1) := lw_dk (P := lwP_11) (e := ((943, 1), .iadd, (0, 0), (.null, []), none)) lw_dc_11 (k := 23) rfl
theorem d_law_944 : decode code 944 = .ok (.iaload, 1) := lw_dk (P := lwP_11) (e := ((944, 1), .iaload, (0, 0), (.null, []), none)) lw_dc_11 (k := 24) rfl
theorem d_law_945 : decode code 945 = .ok (.aload_n 0, 1) := lw_dk (P := lwP_11) (e := ((945, 1), .aload_n 0, (0, 0), (.null, []), none)) lw_dc_11 (k := 25) rfl
theorem d_law_946 : decode code 946 = .ok (.iload_n 3, 1) := lw_dk (P := lwP_11) (e := ((946, 1), .iload_n 3, (0, 0), (.null, []), none)) lw_dc_11 (k := 26) rfl
theorem d_law_947 : decode code 947 = .ok (.iconst 3, 1) := lw_dk (P := lwP_11) (e := ((947, 1), .iconst 3, (0, 0), (.null, []), none)) lw_dc_11 (k := 27) rfl
theorem d_law_948 : decode code 948 = .ok (.iadd, 1) := lw_dk (P := lwP_11) (e := ((948, 1), .iadd, (0, 0), (.null, []), none)) lw_dc_11 (k := 28) rfl
theorem d_law_949 : decode code 949 = .ok (.iaload, 1) := lw_dk (P := lwP_11) (e := ((949, 1), .iaload, (0, 0), (.null, []), none)) lw_dc_11 (k := 29) rfl
theorem d_law_950 : decode code 950 = .ok (.invokevirtual 148, 3) := lw_dk (P := lwP_11) (e := ((950, 3), .invokevirtual 148, (0, 0), (.null, []), none)) lw_dc_11 (k := 30) rfl
theorem d_law_953 : decode code 953 = .ok (.aload_n 2, 1) := lw_dk (P := lwP_11) (e := ((953, 1), .aload_n 2, (0, 0), (.null, []), none)) lw_dc_11 (k := 31) rfl
theorem d_law_954 : decode code 954 = .ok (.aload_n 0, 1) := lw_dk (P := lwP_11) (e := ((954, 1), .aload_n 0, (0, 0), (.null, []), none)) lw_dc_11 (k := 32) rfl
theorem d_law_955 : decode code 955 = .ok (.iload_n 3, 1) := lw_dk (P := lwP_11) (e := ((955, 1), .iload_n 3, (0, 0), (.null, []), none)) lw_dc_11 (k := 33) rfl
theorem d_law_956 : decode code 956 = .ok (.iconst 1, 1) := lw_dk (P := lwP_11) (e := ((956, 1), .iconst 1, (0, 0), (.null, []), none)) lw_dc_11 (k := 34) rfl
theorem d_law_957 : decode code 957 = .ok (.iadd, 1) := lw_dk (P := lwP_11) (e := ((957, 1), .iadd, (0, 0), (.null, []), none)) lw_dc_11 (k := 35) rfl
theorem d_law_958 : decode code 958 = .ok (.iaload, 1) := lw_dk (P := lwP_11) (e := ((958, 1), .iaload, (0, 0), (.null, []), none)) lw_dc_11 (k := 36) rfl
theorem d_law_959 : decode code 959 = .ok (.aload_n 0, 1) := lw_dk (P := lwP_11) (e := ((959, 1), .aload_n 0, (0, 0), (.null, []), none)) lw_dc_11 (k := 37) rfl
theorem d_law_960 : decode code 960 = .ok (.iload_n 3, 1) := lw_dk (P := lwP_11) (e := ((960, 1), .iload_n 3, (0, 0), (.null, []), none)) lw_dc_11 (k := 38) rfl
theorem d_law_961 : decode code 961 = .ok (.iconst 2, 1) := lw_dk (P := lwP_11) (e := ((961, 1), .iconst 2, (0, 0), (.null, []), none)) lw_dc_11 (k := 39) rfl
theorem d_law_962 : decode code 962 = .ok (.iadd, 1) := lw_dk (P := lwP_11) (e := ((962, 1), .iadd, (0, 0), (.null, []), none)) lw_dc_11 (k := 40) rfl
theorem d_law_963 : decode code 963 = .ok (.iaload, 1) := lw_dk (P := lwP_11) (e := ((963, 1), .iaload, (0, 0), (.null, []), none)) lw_dc_11 (k := 41) rfl
theorem d_law_964 : decode code 964 = .ok (.aload_n 0, 1) := lw_dk (P := lwP_11) (e := ((964, 1), .aload_n 0, (0, 0), (.null, []), none)) lw_dc_11 (k := 42) rfl
theorem d_law_965 : decode code 965 = .ok (.iload_n 3, 1) := lw_dk (P := lwP_11) (e := ((965, 1), .iload_n 3, (0, 0), (.null, []), none)) lw_dc_11 (k := 43) rfl
theorem d_law_966 : decode code 966 = .ok (.iconst 3, 1) := lw_dk (P := lwP_11) (e := ((966, 1), .iconst 3, (0, 0), (.null, []), none)) lw_dc_11 (k := 44) rfl
theorem d_law_967 : decode code 967 = .ok (.iadd, 1) := lw_dk (P := lwP_11) (e := ((967, 1), .iadd, (0, 0), (.null, []), none)) lw_dc_11 (k := 45) rfl
theorem d_law_968 : decode code 968 = .ok (.iaload, 1) := lw_dk (P := lwP_11) (e := ((968, 1), .iaload, (0, 0), (.null, []), none)) lw_dc_11 (k := 46) rfl
theorem d_law_969 : decode code 969 = .ok (.invokevirtual 151, 3) := lw_dk (P := lwP_11) (e := ((969, 3), .invokevirtual 151, (0, 0), (.null, []), none)) lw_dc_11 (k := 47) rfl
theorem d_law_972 : decode code 972 = .ok (.if_icmp .eq 74, 3) := lw_dk (P := lwP_11) (e := ((972, 3), .if_icmp .eq 74, (0, 0), (.null, []), none)) lw_dc_11 (k := 48) rfl
theorem d_law_975 : decode code 975 = .ok (.iconst 0, 1) := lw_dk (P := lwP_11) (e := ((975, 1), .iconst 0, (0, 0), (.null, []), none)) lw_dc_11 (k := 49) rfl
theorem d_law_976 : decode code 976 = .ok (.ireturn, 1) := lw_dk (P := lwP_12) (e := ((976, 1), .ireturn, (0, 0), (.null, []), none)) lw_dc_12 (k := 0) rfl
theorem d_law_977 : decode code 977 = .ok (.aload_n 1, 1) := lw_dk (P := lwP_12) (e := ((977, 1), .aload_n 1, (0, 0), (.null, []), none)) lw_dc_12 (k := 1) rfl
theorem d_law_978 : decode code 978 = .ok (.aload_n 0, 1) := lw_dk (P := lwP_12) (e := ((978, 1), .aload_n 0, (0, 0), (.null, []), none)) lw_dc_12 (k := 2) rfl
theorem d_law_979 : decode code 979 = .ok (.iload_n 3, 1) := lw_dk (P := lwP_12) (e := ((979, 1), .iload_n 3, (0, 0), (.null, []), none)) lw_dc_12 (k := 3) rfl
theorem d_law_980 : decode code 980 = .ok (.iconst 1, 1) := lw_dk (P := lwP_12) (e := ((980, 1), .iconst 1, (0, 0), (.null, []), none)) lw_dc_12 (k := 4) rfl
theorem d_law_981 : decode code 981 = .ok (.iadd, 1) := lw_dk (P := lwP_12) (e := ((981, 1), .iadd, (0, 0), (.null, []), none)) lw_dc_12 (k := 5) rfl
theorem d_law_982 : decode code 982 = .ok (.iaload, 1) := lw_dk (P := lwP_12) (e := ((982, 1), .iaload, (0, 0), (.null, []), none)) lw_dc_12 (k := 6) rfl
theorem d_law_983 : decode code 983 = .ok (.invokevirtual 152, 3) := lw_dk (P := lwP_12) (e := ((983, 3), .invokevirtual 152, (0, 0), (.null, []), none)) lw_dc_12 (k := 7) rfl
theorem d_law_986 : decode code 986 = .ok (.aload_n 2, 1) := lw_dk (P := lwP_12) (e := ((986, 1), .aload_n 2, (0, 0), (.null, []), none)) lw_dc_12 (k := 8) rfl
theorem d_law_987 : decode code 987 = .ok (.aload_n 0, 1) := lw_dk (P := lwP_12) (e := ((987, 1), .aload_n 0, (0, 0), (.null, []), none)) lw_dc_12 (k := 9) rfl
theorem d_law_988 : decode code 988 = .ok (.iload_n 3, 1) := lw_dk (P := lwP_12) (e := ((988, 1), .iload_n 3, (0, 0), (.null, []), none)) lw_dc_12 (k := 10) rfl
theorem d_law_989 : decode code 989 = .ok (.iconst 1, 1) := lw_dk (P := lwP_12) (e := ((989, 1), .iconst 1, (0, 0), (.null, []), none)) lw_dc_12 (k := 11) rfl
theorem d_law_990 : decode code 990 = .ok (.iadd, 1) := lw_dk (P := lwP_12) (e := ((990, 1), .iadd, (0, 0), (.null, []), none)) lw_dc_12 (k := 12) rfl
theorem d_law_991 : decode code 991 = .ok (.iaload, 1) := lw_dk (P := lwP_12) (e := ((991, 1), .iaload, (0, 0), (.null, []), none)) lw_dc_12 (k := 13) rfl
theorem d_law_992 : decode code 992 = .ok (.invokevirtual 156, 3) := lw_dk (P := lwP_12) (e := ((992, 3), .invokevirtual 156, (0, 0), (.null, []), none)) lw_dc_12 (k := 14) rfl
theorem d_law_995 : decode code 995 = .ok (.if_icmp .eq 51, 3) := lw_dk (P := lwP_12) (e := ((995, 3), .if_icmp .eq 51, (0, 0), (.null, []), none)) lw_dc_12 (k := 15) rfl
theorem d_law_998 : decode code 998 = .ok (.iconst 0, 1) := lw_dk (P := lwP_12) (e := ((998, 1), .iconst 0, (0, 0), (.null, []), none)) lw_dc_12 (k := 16) rfl
theorem d_law_999 : decode code 999 = .ok (.ireturn, 1) := lw_dk (P := lwP_12) (e := ((999, 1), .ireturn, (0, 0), (.null, []), none)) lw_dc_12 (k := 17) rfl
theorem d_law_1000 : decode code 1000 = .ok (.aload_n 1, 1) := lw_dk (P := lwP_12) (e := ((1000, 1), .aload_n 1, (0, 0), (.null, []), none)) lw_dc_12 (k := 18) rfl
theorem d_law_1001 : decode code 1001 = .ok (.aload_n 0, 1) := lw_dk (P := lwP_12) (e := ((1001, 1), .aload_n 0, (0, 0), (.null, []), none)) lw_dc_12 (k := 19) rfl
theorem d_law_1002 : decode code 1002 = .ok (.iload_n 3, 1) := lw_dk (P := lwP_12) (e := ((1002, 1), .iload_n 3, (0, 0), (.null, []), none)) lw_dc_12 (k := 20) rfl
theorem d_law_1003 : decode code 1003 = .ok (.iconst 1, 1) := lw_dk (P := lwP_12) (e := ((1003, 1), .iconst 1, (0, 0), (.null, []), none)) lw_dc_12 (k := 21) rfl
theorem d_law_1004 : decode code 1004 = .ok (.iadd, 1) := lw_dk (P := lwP_12) (e := ((1004, 1), .iadd, (0, 0), (.null, []), none)) lw_dc_12 (k := 22) rfl
theorem d_law_1005 : decode code 1005 = .ok (.iaload, 1) := lw_dk (P := lwP_12) (e := ((1005, 1), .iaload, (0, 0), (.null, []), none)) lw_dc_12 (k := 23) rfl
theorem d_law_1006 : decode code 1006 = .ok (.invokevirtual 157, 3) := lw_dk (P := lwP_12) (e := ((1006, 3), .invokevirtual 157, (0, 0), (.null, []), none)) lw_dc_12 (k := 24) rfl
theorem d_law_1009 : decode code 1009 = .ok (.aload_n 2, 1) := lw_dk (P := lwP_12) (e := ((1009, 1), .aload_n 2, (0, 0), (.null, []), none)) lw_dc_12 (k := 25) rfl
theorem d_law_1010 : decode code 1010 = .ok (.aload_n 0, 1) := lw_dk (P := lwP_12) (e := ((1010, 1), .aload_n 0, (0, 0), (.null, []), none)) lw_dc_12 (k := 26) rfl
theorem d_law_1011 : decode code 1011 = .ok (.iload_n 3, 1) := lw_dk (P := lwP_12) (e := ((1011, 1), .iload_n 3, (0, 0), (.null, []), none)) lw_dc_12 (k := 27) rfl
theorem d_law_1012 : decode code 1012 = .ok (.iconst 1, 1) := lw_dk (P := lwP_12) (e := ((1012, 1), .iconst 1, (0, 0), (.null, []), none)) lw_dc_12 (k := 28) rfl
theorem d_law_1013 : decode code 1013 = .ok (.iadd, 1) := lw_dk (P := lwP_12) (e := ((1013, 1), .iadd, (0, 0), (.null, []), none)) lw_dc_12 (k := 29) rfl
theorem d_law_1014 : decode code 1014 = .ok (.iaload, 1) := lw_dk (P := lwP_12) (e := ((1014, 1), .iaload, (0, 0), (.null, []), none)) lw_dc_12 (k := 30) rfl
theorem d_law_1015 : decode code 1015 = .ok (.invokevirtual 160, 3) := lw_dk (P := lwP_12) (e := ((1015, 3), .invokevirtual 160, (0, 0), (.null, []), none)) lw_dc_12 (k := 31) rfl
theorem d_law_1018 : decode code 1018 = .ok (.if_icmp .eq 28, 3) := lw_dk (P := lwP_12) (e := ((1018, 3), .if_icmp .eq 28, (0, 0), (.null, []), none)) lw_dc_12 (k := 32) rfl
theorem d_law_1021 : decode code 1021 = .ok (.iconst 0, 1) := lw_dk (P := lwP_12) (e := ((1021, 1), .iconst 0, (0, 0), (.null, []), none)) lw_dc_12 (k := 33) rfl
theorem d_law_1022 : decode code 1022 = .ok (.ireturn, 1) := lw_dk (P := lwP_12) (e := ((1022, 1), .ireturn, (0, 0), (.null, []), none)) lw_dc_12 (k := 34) rfl
theorem d_law_1023 : decode code 1023 = .ok (.aload_n 1, 1) := lw_dk (P := lwP_12) (e := ((1023, 1), .aload_n 1, (0, 0), (.null, []), none)) lw_dc_12 (k := 35) rfl
theorem d_law_1024 : decode code 1024 = .ok (.aload_n 0, 1) := lw_dk (P := lwP_12) (e := ((1024, 1), .aload_n 0, (0, 0), (.null, []), none)) lw_dc_12 (k := 36) rfl
theorem d_law_1025 : decode code 1025 = .ok (.iload_n 3, 1) := lw_dk (P := lwP_12) (e := ((1025, 1), .iload_n 3, (0, 0), (.null, []), none)) lw_dc_12 (k := 37) rfl
theorem d_law_1026 : decode code 1026 = .ok (.iconst 1, 1) := lw_dk (P := lwP_12) (e := ((1026, 1), .iconst 1, (0, 0), (.null, []), none)) lw_dc_12 (k := 38) rfl
theorem d_law_1027 : decode code 1027 = .ok (.iadd, 1) := lw_dk (P := lwP_12) (e := ((1027, 1), .iadd, (0, 0), (.null, []), none)) lw_dc_12 (k := 39) rfl
theorem d_law_1028 : decode code 1028 = .ok (.iaload, 1) := lw_dk (P := lwP_12) (e := ((1028, 1), .iaload, (0, 0), (.null, []), none)) lw_dc_12 (k := 40) rfl
theorem d_law_1029 : decode code 1029 = .ok (.invokevirtual 161, 3) := lw_dk (P := lwP_12) (e := ((1029, 3), .invokevirtual 161, (0, 0), (.null, []), none)) lw_dc_12 (k := 41) rfl
theorem d_law_1032 : decode code 1032 = .ok (.aload_n 2, 1) := lw_dk (P := lwP_12) (e := ((1032, 1), .aload_n 2, (0, 0), (.null, []), none)) lw_dc_12 (k := 42) rfl
theorem d_law_1033 : decode code 1033 = .ok (.aload_n 0, 1) := lw_dk (P := lwP_12) (e := ((1033, 1), .aload_n 0, (0, 0), (.null, []), none)) lw_dc_12 (k := 43) rfl
theorem d_law_1034 : decode code 1034 = .ok (.iload_n 3, 1) := lw_dk (P := lwP_12) (e := ((1034, 1), .iload_n 3, (0, 0), (.null, []), none)) lw_dc_12 (k := 44) rfl
theorem d_law_1035 : decode code 1035 = .ok (.iconst 1, 1) := lw_dk (P := lwP_12) (e := ((1035, 1), .iconst 1, (0, 0), (.null, []), none)) lw_dc_12 (k := 45) rfl
theorem d_law_1036 : decode code 1036 = .ok (.iadd, 1) := lw_dk (P := lwP_12) (e := ((1036, 1), .iadd, (0, 0), (.null, []), none)) lw_dc_12 (k := 46) rfl
theorem d_law_1037 : decode code 1037 = .ok (.iaload, 1) := lw_dk (P := lwP_12) (e := ((1037, 1), .iaload, (0, 0), (.null, []), none)) lw_dc_12 (k := 47) rfl
theorem d_law_1038 : decode code 1038 = .ok (.invokevirtual 164, 3) := lw_dk (P := lwP_12) (e := ((1038, 3), .invokevirtual 164, (0, 0), (.null, []), none)) lw_dc_12 (k := 48) rfl
theorem d_law_1041 : decode code 1041 = .ok (.if_icmp .eq 5, 3) := lw_dk (P := lwP_12) (e := ((1041, 3), .if_icmp .eq 5, (0, 0), (.null, []), none)) lw_dc_12 (k := 49) rfl
theorem d_law_1044 : decode code 1044 = .ok (.iconst 0, 1) := lw_dk (P := lwP_13) (e := ((1044, 1), .iconst 0, (0, 0), (.null, []), none)) lw_dc_13 (k := 0) rfl
theorem d_law_1045 : decode code 1045 = .ok (.ireturn, 1) := lw_dk (P := lwP_13) (e := ((1045, 1), .ireturn, (0, 0), (.null, []), none)) lw_dc_13 (k := 1) rfl
theorem d_law_1046 : decode code 1046 = .ok (.iinc 3 6, 3) := lw_dk (P := lwP_13) (e := ((1046, 3), .iinc 3 6, (0, 0), (.null, []), none)) lw_dc_13 (k := 2) rfl
theorem d_law_1049 : decode code 1049 = .ok (.goto (-1031), 3) := lw_dk (P := lwP_13) (e := ((1049, 3), .goto (-1031), (0, 0), (.null, []), none)) lw_dc_13 (k := 3) rfl
theorem d_law_1052 : decode code 1052 = .ok (.iconst 1, 1) := lw_dk (P := lwP_13) (e := ((1052, 1), .iconst 1, (0, 0), (.null, []), none)) lw_dc_13 (k := 4) rfl
theorem d_law_1053 : decode code 1053 = .ok (.ireturn, 1) := lw_dk (P := lwP_13) (e := ((1053, 1), .ireturn, (0, 0), (.null, []), none)) lw_dc_13 (k := 5) rfl
