set_option maxRecDepth 100000 in
theorem zk_698L : zck 0 (cL_row.data.toList.drop 0) [(0, .aload_n 2, 1), (1, .iconst 0, 1), (2, .aload_n 0, 1), (3, .iload_n 1, 1), (4, .invokevirtual 7, 3), (7, .lastore, 1), (8, .goto 6, 3), (11, .astore_n 3, 1), (12, .iconst 1, 1), (13, .ireturn, 1), (14, .iconst 0, 1), (15, .ireturn, 1)] = true := by decide +kernel
theorem zr_698L : decode cL_row 0 = .ok (.aload_n 2, 1) ∧ decode cL_row 1 = .ok (.iconst 0, 1) ∧ decode cL_row 2 = .ok (.aload_n 0, 1) ∧ decode cL_row 3 = .ok (.iload_n 1, 1) ∧ decode cL_row 4 = .ok (.invokevirtual 7, 3) ∧ decode cL_row 7 = .ok (.lastore, 1) ∧ decode cL_row 8 = .ok (.goto 6, 3) ∧ decode cL_row 11 = .ok (.astore_n 3, 1) ∧ decode cL_row 12 = .ok (.iconst 1, 1) ∧ decode cL_row 13 = .ok (.ireturn, 1) ∧ decode cL_row 14 = .ok (.iconst 0, 1) ∧ decode cL_row 15 = .ok (.ireturn, 1) ∧ True := zj_of zk_698L
abbrev dL_row_0 := zr_698L.1
abbrev dL_row_1 := zr_698L.2.1
abbrev dL_row_2 := zr_698L.2.2.1
abbrev dL_row_3 := zr_698L.2.2.2.1
abbrev dL_row_4 := zr_698L.2.2.2.2.1
abbrev dL_row_7 := zr_698L.2.2.2.2.2.1
abbrev dL_row_8 := zr_698L.2.2.2.2.2.2.1
abbrev dL_row_11 := zr_698L.2.2.2.2.2.2.2.1
abbrev dL_row_12 := zr_698L.2.2.2.2.2.2.2.2.1
abbrev dL_row_13 := zr_698L.2.2.2.2.2.2.2.2.2.1
abbrev dL_row_14 := zr_698L.2.2.2.2.2.2.2.2.2.2.1
abbrev dL_row_15 := zr_698L.2.2.2.2.2.2.2.2.2.2.2.1
set_option maxRecDepth 100000 in
theorem zk_699L : zck 0 (cL_law.data.toList.drop 0) [(0, .new 8, 3), (3, .dup, 1), (4, .invokespecial 15, 3), (7, .astore_n 1, 1), (8, .new 16, 3), (11, .dup, 1), (12, .invokespecial 18, 3), (15, .astore_n 2, 1), (16, .iconst 1, 1)] = true := by decide +kernel
theorem zr_699L : decode cL_law 0 = .ok (.new 8, 3) ∧ decode cL_law 3 = .ok (.dup, 1) ∧ decode cL_law 4 = .ok (.invokespecial 15, 3) ∧ decode cL_law 7 = .ok (.astore_n 1, 1) ∧ decode cL_law 8 = .ok (.new 16, 3) ∧ decode cL_law 11 = .ok (.dup, 1) ∧ decode cL_law 12 = .ok (.invokespecial 18, 3) ∧ decode cL_law 15 = .ok (.astore_n 2, 1) ∧ decode cL_law 16 = .ok (.iconst 1, 1) ∧ True := zj_of zk_699L
abbrev dL_law_0 := zr_699L.1
abbrev dL_law_3 := zr_699L.2.1
abbrev dL_law_4 := zr_699L.2.2.1
abbrev dL_law_7 := zr_699L.2.2.2.1
abbrev dL_law_8 := zr_699L.2.2.2.2.1
abbrev dL_law_11 := zr_699L.2.2.2.2.2.1
abbrev dL_law_12 := zr_699L.2.2.2.2.2.2.1
abbrev dL_law_15 := zr_699L.2.2.2.2.2.2.2.1
abbrev dL_law_16 := zr_699L.2.2.2.2.2.2.2.2.1
set_option maxRecDepth 100000 in
theorem dL_law_17 : decode cL_law 17 = .ok (.newarray .long, 2) := by decide +kernel
set_option maxRecDepth 100000 in
theorem zk_700L : zck 19 (cL_law.data.toList.drop 19) [(19, .astore_n 3, 1), (20, .iconst 0, 1), (21, .istore 4, 2), (23, .iload 4, 2), (25, .aload_n 0, 1), (26, .arraylength, 1), (27, .bipush 6, 2), (29, .isub, 1), (30, .if_icmp .gt 1812, 3), (33, .aload_n 0, 1), (34, .iload 4, 2), (36, .iaload, 1)] = true := by decide +kernel
theorem zr_700L : decode cL_law 19 = .ok (.astore_n 3, 1) ∧ decode cL_law 20 = .ok (.iconst 0, 1) ∧ decode cL_law 21 = .ok (.istore 4, 2) ∧ decode cL_law 23 = .ok (.iload 4, 2) ∧ decode cL_law 25 = .ok (.aload_n 0, 1) ∧ decode cL_law 26 = .ok (.arraylength, 1) ∧ decode cL_law 27 = .ok (.bipush 6, 2) ∧ decode cL_law 29 = .ok (.isub, 1) ∧ decode cL_law 30 = .ok (.if_icmp .gt 1812, 3) ∧ decode cL_law 33 = .ok (.aload_n 0, 1) ∧ decode cL_law 34 = .ok (.iload 4, 2) ∧ decode cL_law 36 = .ok (.iaload, 1) ∧ True := zj_of zk_700L
abbrev dL_law_19 := zr_700L.1
abbrev dL_law_20 := zr_700L.2.1
abbrev dL_law_21 := zr_700L.2.2.1
abbrev dL_law_23 := zr_700L.2.2.2.1
abbrev dL_law_25 := zr_700L.2.2.2.2.1
abbrev dL_law_26 := zr_700L.2.2.2.2.2.1
abbrev dL_law_27 := zr_700L.2.2.2.2.2.2.1
abbrev dL_law_29 := zr_700L.2.2.2.2.2.2.2.1
abbrev dL_law_30 := zr_700L.2.2.2.2.2.2.2.2.1
abbrev dL_law_33 := zr_700L.2.2.2.2.2.2.2.2.2.1
abbrev dL_law_34 := zr_700L.2.2.2.2.2.2.2.2.2.2.1
abbrev dL_law_36 := zr_700L.2.2.2.2.2.2.2.2.2.2.2.1
set_option maxRecDepth 100000 in
theorem zk_701L : zck 37 (cL_law.data.toList.drop 37) [(37, .bipush 63, 2), (39, .iand, 1)] = true := by decide +kernel
theorem zr_701L : decode cL_law 37 = .ok (.bipush 63, 2) ∧ decode cL_law 39 = .ok (.iand, 1) ∧ True := zj_of zk_701L
abbrev dL_law_37 := zr_701L.1
abbrev dL_law_39 := zr_701L.2.1
set_option maxRecDepth 100000 in
theorem dL_law_40 : decode cL_law 40 = .ok (.tableswitch 1796 0 40 #[180, 193, 206, 231, 268, 293, 330, 367, 392, 417, 442, 479, 516, 529, 542, 591, 628, 665, 726, 775, 824, 873, 922, 959, 1020, 1057, 1106, 1143, 1192, 1241, 1290, 1327, 1364, 1401, 1438, 1487, 1548, 1609, 1682, 1743, 1768], 180) := by decide +kernel
set_option maxRecDepth 100000 in
theorem zk_702L : zck 220 (cL_law.data.toList.drop 220) [(220, .aload_n 1, 1), (221, .invokevirtual 19, 3), (224, .pop, 1), (225, .aload_n 2, 1), (226, .invokevirtual 23, 3), (229, .pop, 1), (230, .goto 1606, 3), (233, .aload_n 1, 1), (234, .invokevirtual 24, 3), (237, .pop, 1), (238, .aload_n 2, 1), (239, .invokevirtual 27, 3)] = true := by decide +kernel
theorem zr_702L : decode cL_law 220 = .ok (.aload_n 1, 1) ∧ decode cL_law 221 = .ok (.invokevirtual 19, 3) ∧ decode cL_law 224 = .ok (.pop, 1) ∧ decode cL_law 225 = .ok (.aload_n 2, 1) ∧ decode cL_law 226 = .ok (.invokevirtual 23, 3) ∧ decode cL_law 229 = .ok (.pop, 1) ∧ decode cL_law 230 = .ok (.goto 1606, 3) ∧ decode cL_law 233 = .ok (.aload_n 1, 1) ∧ decode cL_law 234 = .ok (.invokevirtual 24, 3) ∧ decode cL_law 237 = .ok (.pop, 1) ∧ decode cL_law 238 = .ok (.aload_n 2, 1) ∧ decode cL_law 239 = .ok (.invokevirtual 27, 3) ∧ True := zj_of zk_702L
abbrev dL_law_220 := zr_702L.1
abbrev dL_law_221 := zr_702L.2.1
abbrev dL_law_224 := zr_702L.2.2.1
abbrev dL_law_225 := zr_702L.2.2.2.1
abbrev dL_law_226 := zr_702L.2.2.2.2.1
abbrev dL_law_229 := zr_702L.2.2.2.2.2.1
abbrev dL_law_230 := zr_702L.2.2.2.2.2.2.1
abbrev dL_law_233 := zr_702L.2.2.2.2.2.2.2.1
abbrev dL_law_234 := zr_702L.2.2.2.2.2.2.2.2.1
abbrev dL_law_237 := zr_702L.2.2.2.2.2.2.2.2.2.1
abbrev dL_law_238 := zr_702L.2.2.2.2.2.2.2.2.2.2.1
abbrev dL_law_239 := zr_702L.2.2.2.2.2.2.2.2.2.2.2.1
set_option maxRecDepth 100000 in
theorem zk_703L : zck 242 (cL_law.data.toList.drop 242) [(242, .pop, 1), (243, .goto 1593, 3), (246, .aload_n 1, 1), (247, .aload_n 0, 1), (248, .iload 4, 2), (250, .iconst 1, 1), (251, .iadd, 1), (252, .iaload, 1), (253, .invokevirtual 28, 3), (256, .pop, 1), (257, .aload_n 2, 1), (258, .aload_n 0, 1)] = true := by decide +kernel
theorem zr_703L : decode cL_law 242 = .ok (.pop, 1) ∧ decode cL_law 243 = .ok (.goto 1593, 3) ∧ decode cL_law 246 = .ok (.aload_n 1, 1) ∧ decode cL_law 247 = .ok (.aload_n 0, 1) ∧ decode cL_law 248 = .ok (.iload 4, 2) ∧ decode cL_law 250 = .ok (.iconst 1, 1) ∧ decode cL_law 251 = .ok (.iadd, 1) ∧ decode cL_law 252 = .ok (.iaload, 1) ∧ decode cL_law 253 = .ok (.invokevirtual 28, 3) ∧ decode cL_law 256 = .ok (.pop, 1) ∧ decode cL_law 257 = .ok (.aload_n 2, 1) ∧ decode cL_law 258 = .ok (.aload_n 0, 1) ∧ True := zj_of zk_703L
abbrev dL_law_242 := zr_703L.1
abbrev dL_law_243 := zr_703L.2.1
abbrev dL_law_246 := zr_703L.2.2.1
abbrev dL_law_247 := zr_703L.2.2.2.1
abbrev dL_law_248 := zr_703L.2.2.2.2.1
abbrev dL_law_250 := zr_703L.2.2.2.2.2.1
abbrev dL_law_251 := zr_703L.2.2.2.2.2.2.1
abbrev dL_law_252 := zr_703L.2.2.2.2.2.2.2.1
abbrev dL_law_253 := zr_703L.2.2.2.2.2.2.2.2.1
abbrev dL_law_256 := zr_703L.2.2.2.2.2.2.2.2.2.1
abbrev dL_law_257 := zr_703L.2.2.2.2.2.2.2.2.2.2.1
abbrev dL_law_258 := zr_703L.2.2.2.2.2.2.2.2.2.2.2.1
set_option maxRecDepth 100000 in
theorem zk_704L : zck 259 (cL_law.data.toList.drop 259) [(259, .iload 4, 2), (261, .iconst 1, 1), (262, .iadd, 1), (263, .iaload, 1), (264, .invokevirtual 32, 3), (267, .pop, 1), (268, .goto 1568, 3), (271, .aload_n 1, 1), (272, .aload_n 0, 1), (273, .iload 4, 2), (275, .iconst 1, 1), (276, .iadd, 1)] = true := by decide +kernel
theorem zr_704L : decode cL_law 259 = .ok (.iload 4, 2) ∧ decode cL_law 261 = .ok (.iconst 1, 1) ∧ decode cL_law 262 = .ok (.iadd, 1) ∧ decode cL_law 263 = .ok (.iaload, 1) ∧ decode cL_law 264 = .ok (.invokevirtual 32, 3) ∧ decode cL_law 267 = .ok (.pop, 1) ∧ decode cL_law 268 = .ok (.goto 1568, 3) ∧ decode cL_law 271 = .ok (.aload_n 1, 1) ∧ decode cL_law 272 = .ok (.aload_n 0, 1) ∧ decode cL_law 273 = .ok (.iload 4, 2) ∧ decode cL_law 275 = .ok (.iconst 1, 1) ∧ decode cL_law 276 = .ok (.iadd, 1) ∧ True := zj_of zk_704L
abbrev dL_law_259 := zr_704L.1
abbrev dL_law_261 := zr_704L.2.1
abbrev dL_law_262 := zr_704L.2.2.1
abbrev dL_law_263 := zr_704L.2.2.2.1
abbrev dL_law_264 := zr_704L.2.2.2.2.1
abbrev dL_law_267 := zr_704L.2.2.2.2.2.1
abbrev dL_law_268 := zr_704L.2.2.2.2.2.2.1
abbrev dL_law_271 := zr_704L.2.2.2.2.2.2.2.1
abbrev dL_law_272 := zr_704L.2.2.2.2.2.2.2.2.1
abbrev dL_law_273 := zr_704L.2.2.2.2.2.2.2.2.2.1
abbrev dL_law_275 := zr_704L.2.2.2.2.2.2.2.2.2.2.1
abbrev dL_law_276 := zr_704L.2.2.2.2.2.2.2.2.2.2.2.1
set_option maxRecDepth 100000 in
theorem zk_705L : zck 277 (cL_law.data.toList.drop 277) [(277, .iaload, 1), (278, .aload_n 0, 1), (279, .iload 4, 2), (281, .iconst 2, 1), (282, .iadd, 1), (283, .iaload, 1), (284, .invokevirtual 33, 3), (287, .pop, 1), (288, .aload_n 2, 1), (289, .aload_n 0, 1), (290, .iload 4, 2), (292, .iconst 1, 1)] = true := by decide +kernel
theorem zr_705L : decode cL_law 277 = .ok (.iaload, 1) ∧ decode cL_law 278 = .ok (.aload_n 0, 1) ∧ decode cL_law 279 = .ok (.iload 4, 2) ∧ decode cL_law 281 = .ok (.iconst 2, 1) ∧ decode cL_law 282 = .ok (.iadd, 1) ∧ decode cL_law 283 = .ok (.iaload, 1) ∧ decode cL_law 284 = .ok (.invokevirtual 33, 3) ∧ decode cL_law 287 = .ok (.pop, 1) ∧ decode cL_law 288 = .ok (.aload_n 2, 1) ∧ decode cL_law 289 = .ok (.aload_n 0, 1) ∧ decode cL_law 290 = .ok (.iload 4, 2) ∧ decode cL_law 292 = .ok (.iconst 1, 1) ∧ True := zj_of zk_705L
abbrev dL_law_277 := zr_705L.1
abbrev dL_law_278 := zr_705L.2.1
abbrev dL_law_279 := zr_705L.2.2.1
abbrev dL_law_281 := zr_705L.2.2.2.1
abbrev dL_law_282 := zr_705L.2.2.2.2.1
abbrev dL_law_283 := zr_705L.2.2.2.2.2.1
abbrev dL_law_284 := zr_705L.2.2.2.2.2.2.1
abbrev dL_law_287 := zr_705L.2.2.2.2.2.2.2.1
abbrev dL_law_288 := zr_705L.2.2.2.2.2.2.2.2.1
abbrev dL_law_289 := zr_705L.2.2.2.2.2.2.2.2.2.1
abbrev dL_law_290 := zr_705L.2.2.2.2.2.2.2.2.2.2.1
abbrev dL_law_292 := zr_705L.2.2.2.2.2.2.2.2.2.2.2.1
set_option maxRecDepth 100000 in
theorem zk_706L : zck 293 (cL_law.data.toList.drop 293) [(293, .iadd, 1), (294, .iaload, 1), (295, .aload_n 0, 1), (296, .iload 4, 2), (298, .iconst 2, 1), (299, .iadd, 1), (300, .iaload, 1), (301, .invokevirtual 37, 3), (304, .pop, 1), (305, .goto 1531, 3), (308, .aload_n 1, 1), (309, .aload_n 0, 1)] = true := by decide +kernel
theorem zr_706L : decode cL_law 293 = .ok (.iadd, 1) ∧ decode cL_law 294 = .ok (.iaload, 1) ∧ decode cL_law 295 = .ok (.aload_n 0, 1) ∧ decode cL_law 296 = .ok (.iload 4, 2) ∧ decode cL_law 298 = .ok (.iconst 2, 1) ∧ decode cL_law 299 = .ok (.iadd, 1) ∧ decode cL_law 300 = .ok (.iaload, 1) ∧ decode cL_law 301 = .ok (.invokevirtual 37, 3) ∧ decode cL_law 304 = .ok (.pop, 1) ∧ decode cL_law 305 = .ok (.goto 1531, 3) ∧ decode cL_law 308 = .ok (.aload_n 1, 1) ∧ decode cL_law 309 = .ok (.aload_n 0, 1) ∧ True := zj_of zk_706L
abbrev dL_law_293 := zr_706L.1
abbrev dL_law_294 := zr_706L.2.1
abbrev dL_law_295 := zr_706L.2.2.1
abbrev dL_law_296 := zr_706L.2.2.2.1
abbrev dL_law_298 := zr_706L.2.2.2.2.1
abbrev dL_law_299 := zr_706L.2.2.2.2.2.1
abbrev dL_law_300 := zr_706L.2.2.2.2.2.2.1
abbrev dL_law_301 := zr_706L.2.2.2.2.2.2.2.1
abbrev dL_law_304 := zr_706L.2.2.2.2.2.2.2.2.1
abbrev dL_law_305 := zr_706L.2.2.2.2.2.2.2.2.2.1
abbrev dL_law_308 := zr_706L.2.2.2.2.2.2.2.2.2.2.1
abbrev dL_law_309 := zr_706L.2.2.2.2.2.2.2.2.2.2.2.1
set_option maxRecDepth 100000 in
theorem zk_707L : zck 310 (cL_law.data.toList.drop 310) [(310, .iload 4, 2), (312, .iconst 1, 1), (313, .iadd, 1), (314, .iaload, 1), (315, .invokevirtual 38, 3), (318, .pop, 1), (319, .aload_n 2, 1), (320, .aload_n 0, 1), (321, .iload 4, 2), (323, .iconst 1, 1), (324, .iadd, 1), (325, .iaload, 1)] = true := by decide +kernel
theorem zr_707L : decode cL_law 310 = .ok (.iload 4, 2) ∧ decode cL_law 312 = .ok (.iconst 1, 1) ∧ decode cL_law 313 = .ok (.iadd, 1) ∧ decode cL_law 314 = .ok (.iaload, 1) ∧ decode cL_law 315 = .ok (.invokevirtual 38, 3) ∧ decode cL_law 318 = .ok (.pop, 1) ∧ decode cL_law 319 = .ok (.aload_n 2, 1) ∧ decode cL_law 320 = .ok (.aload_n 0, 1) ∧ decode cL_law 321 = .ok (.iload 4, 2) ∧ decode cL_law 323 = .ok (.iconst 1, 1) ∧ decode cL_law 324 = .ok (.iadd, 1) ∧ decode cL_law 325 = .ok (.iaload, 1) ∧ True := zj_of zk_707L
abbrev dL_law_310 := zr_707L.1
abbrev dL_law_312 := zr_707L.2.1
abbrev dL_law_313 := zr_707L.2.2.1
abbrev dL_law_314 := zr_707L.2.2.2.1
abbrev dL_law_315 := zr_707L.2.2.2.2.1
abbrev dL_law_318 := zr_707L.2.2.2.2.2.1
abbrev dL_law_319 := zr_707L.2.2.2.2.2.2.1
abbrev dL_law_320 := zr_707L.2.2.2.2.2.2.2.1
abbrev dL_law_321 := zr_707L.2.2.2.2.2.2.2.2.1
abbrev dL_law_323 := zr_707L.2.2.2.2.2.2.2.2.2.1
abbrev dL_law_324 := zr_707L.2.2.2.2.2.2.2.2.2.2.1
abbrev dL_law_325 := zr_707L.2.2.2.2.2.2.2.2.2.2.2.1
set_option maxRecDepth 100000 in
theorem zk_708L : zck 326 (cL_law.data.toList.drop 326) [(326, .invokevirtual 41, 3), (329, .pop, 1), (330, .goto 1506, 3), (333, .aload_n 1, 1), (334, .aload_n 0, 1), (335, .iload 4, 2), (337, .iconst 1, 1), (338, .iadd, 1), (339, .iaload, 1), (340, .aload_n 0, 1), (341, .iload 4, 2), (343, .iconst 2, 1)] = true := by decide +kernel
theorem zr_708L : decode cL_law 326 = .ok (.invokevirtual 41, 3) ∧ decode cL_law 329 = .ok (.pop, 1) ∧ decode cL_law 330 = .ok (.goto 1506, 3) ∧ decode cL_law 333 = .ok (.aload_n 1, 1) ∧ decode cL_law 334 = .ok (.aload_n 0, 1) ∧ decode cL_law 335 = .ok (.iload 4, 2) ∧ decode cL_law 337 = .ok (.iconst 1, 1) ∧ decode cL_law 338 = .ok (.iadd, 1) ∧ decode cL_law 339 = .ok (.iaload, 1) ∧ decode cL_law 340 = .ok (.aload_n 0, 1) ∧ decode cL_law 341 = .ok (.iload 4, 2) ∧ decode cL_law 343 = .ok (.iconst 2, 1) ∧ True := zj_of zk_708L
abbrev dL_law_326 := zr_708L.1
abbrev dL_law_329 := zr_708L.2.1
abbrev dL_law_330 := zr_708L.2.2.1
abbrev dL_law_333 := zr_708L.2.2.2.1
abbrev dL_law_334 := zr_708L.2.2.2.2.1
abbrev dL_law_335 := zr_708L.2.2.2.2.2.1
abbrev dL_law_337 := zr_708L.2.2.2.2.2.2.1
abbrev dL_law_338 := zr_708L.2.2.2.2.2.2.2.1
abbrev dL_law_339 := zr_708L.2.2.2.2.2.2.2.2.1
abbrev dL_law_340 := zr_708L.2.2.2.2.2.2.2.2.2.1
abbrev dL_law_341 := zr_708L.2.2.2.2.2.2.2.2.2.2.1
abbrev dL_law_343 := zr_708L.2.2.2.2.2.2.2.2.2.2.2.1
set_option maxRecDepth 100000 in
theorem zk_709L : zck 344 (cL_law.data.toList.drop 344) [(344, .iadd, 1), (345, .iaload, 1), (346, .invokevirtual 42, 3), (349, .pop, 1), (350, .aload_n 2, 1), (351, .aload_n 0, 1), (352, .iload 4, 2), (354, .iconst 1, 1), (355, .iadd, 1), (356, .iaload, 1), (357, .aload_n 0, 1), (358, .iload 4, 2)] = true := by decide +kernel
theorem zr_709L : decode cL_law 344 = .ok (.iadd, 1) ∧ decode cL_law 345 = .ok (.iaload, 1) ∧ decode cL_law 346 = .ok (.invokevirtual 42, 3) ∧ decode cL_law 349 = .ok (.pop, 1) ∧ decode cL_law 350 = .ok (.aload_n 2, 1) ∧ decode cL_law 351 = .ok (.aload_n 0, 1) ∧ decode cL_law 352 = .ok (.iload 4, 2) ∧ decode cL_law 354 = .ok (.iconst 1, 1) ∧ decode cL_law 355 = .ok (.iadd, 1) ∧ decode cL_law 356 = .ok (.iaload, 1) ∧ decode cL_law 357 = .ok (.aload_n 0, 1) ∧ decode cL_law 358 = .ok (.iload 4, 2) ∧ True := zj_of zk_709L
abbrev dL_law_344 := zr_709L.1
abbrev dL_law_345 := zr_709L.2.1
abbrev dL_law_346 := zr_709L.2.2.1
abbrev dL_law_349 := zr_709L.2.2.2.1
abbrev dL_law_350 := zr_709L.2.2.2.2.1
abbrev dL_law_351 := zr_709L.2.2.2.2.2.1
abbrev dL_law_352 := zr_709L.2.2.2.2.2.2.1
abbrev dL_law_354 := zr_709L.2.2.2.2.2.2.2.1
abbrev dL_law_355 := zr_709L.2.2.2.2.2.2.2.2.1
abbrev dL_law_356 := zr_709L.2.2.2.2.2.2.2.2.2.1
abbrev dL_law_357 := zr_709L.2.2.2.2.2.2.2.2.2.2.1
abbrev dL_law_358 := zr_709L.2.2.2.2.2.2.2.2.2.2.2.1
set_option maxRecDepth 100000 in
theorem zk_710L : zck 360 (cL_law.data.toList.drop 360) [(360, .iconst 2, 1), (361, .iadd, 1), (362, .iaload, 1), (363, .invokevirtual 45, 3), (366, .pop, 1), (367, .goto 1469, 3), (370, .aload_n 1, 1), (371, .aload_n 0, 1), (372, .iload 4, 2), (374, .iconst 1, 1), (375, .iadd, 1), (376, .iaload, 1)] = true := by decide +kernel
theorem zr_710L : decode cL_law 360 = .ok (.iconst 2, 1) ∧ decode cL_law 361 = .ok (.iadd, 1) ∧ decode cL_law 362 = .ok (.iaload, 1) ∧ decode cL_law 363 = .ok (.invokevirtual 45, 3) ∧ decode cL_law 366 = .ok (.pop, 1) ∧ decode cL_law 367 = .ok (.goto 1469, 3) ∧ decode cL_law 370 = .ok (.aload_n 1, 1) ∧ decode cL_law 371 = .ok (.aload_n 0, 1) ∧ decode cL_law 372 = .ok (.iload 4, 2) ∧ decode cL_law 374 = .ok (.iconst 1, 1) ∧ decode cL_law 375 = .ok (.iadd, 1) ∧ decode cL_law 376 = .ok (.iaload, 1) ∧ True := zj_of zk_710L
abbrev dL_law_360 := zr_710L.1
abbrev dL_law_361 := zr_710L.2.1
abbrev dL_law_362 := zr_710L.2.2.1
abbrev dL_law_363 := zr_710L.2.2.2.1
abbrev dL_law_366 := zr_710L.2.2.2.2.1
abbrev dL_law_367 := zr_710L.2.2.2.2.2.1
abbrev dL_law_370 := zr_710L.2.2.2.2.2.2.1
abbrev dL_law_371 := zr_710L.2.2.2.2.2.2.2.1
abbrev dL_law_372 := zr_710L.2.2.2.2.2.2.2.2.1
abbrev dL_law_374 := zr_710L.2.2.2.2.2.2.2.2.2.1
abbrev dL_law_375 := zr_710L.2.2.2.2.2.2.2.2.2.2.1
abbrev dL_law_376 := zr_710L.2.2.2.2.2.2.2.2.2.2.2.1
set_option maxRecDepth 100000 in
theorem zk_711L : zck 377 (cL_law.data.toList.drop 377) [(377, .aload_n 0, 1), (378, .iload 4, 2), (380, .iconst 2, 1), (381, .iadd, 1), (382, .iaload, 1), (383, .invokevirtual 46, 3), (386, .pop, 1), (387, .aload_n 2, 1), (388, .aload_n 0, 1), (389, .iload 4, 2), (391, .iconst 1, 1), (392, .iadd, 1)] = true := by decide +kernel
theorem zr_711L : decode cL_law 377 = .ok (.aload_n 0, 1) ∧ decode cL_law 378 = .ok (.iload 4, 2) ∧ decode cL_law 380 = .ok (.iconst 2, 1) ∧ decode cL_law 381 = .ok (.iadd, 1) ∧ decode cL_law 382 = .ok (.iaload, 1) ∧ decode cL_law 383 = .ok (.invokevirtual 46, 3) ∧ decode cL_law 386 = .ok (.pop, 1) ∧ decode cL_law 387 = .ok (.aload_n 2, 1) ∧ decode cL_law 388 = .ok (.aload_n 0, 1) ∧ decode cL_law 389 = .ok (.iload 4, 2) ∧ decode cL_law 391 = .ok (.iconst 1, 1) ∧ decode cL_law 392 = .ok (.iadd, 1) ∧ True := zj_of zk_711L
abbrev dL_law_377 := zr_711L.1
abbrev dL_law_378 := zr_711L.2.1
abbrev dL_law_380 := zr_711L.2.2.1
abbrev dL_law_381 := zr_711L.2.2.2.1
abbrev dL_law_382 := zr_711L.2.2.2.2.1
abbrev dL_law_383 := zr_711L.2.2.2.2.2.1
abbrev dL_law_386 := zr_711L.2.2.2.2.2.2.1
abbrev dL_law_387 := zr_711L.2.2.2.2.2.2.2.1
abbrev dL_law_388 := zr_711L.2.2.2.2.2.2.2.2.1
abbrev dL_law_389 := zr_711L.2.2.2.2.2.2.2.2.2.1
abbrev dL_law_391 := zr_711L.2.2.2.2.2.2.2.2.2.2.1
abbrev dL_law_392 := zr_711L.2.2.2.2.2.2.2.2.2.2.2.1
set_option maxRecDepth 100000 in
theorem zk_712L : zck 393 (cL_law.data.toList.drop 393) [(393, .iaload, 1), (394, .aload_n 0, 1), (395, .iload 4, 2), (397, .iconst 2, 1), (398, .iadd, 1), (399, .iaload, 1), (400, .invokevirtual 49, 3), (403, .pop, 1), (404, .goto 1432, 3), (407, .aload_n 1, 1), (408, .aload_n 0, 1), (409, .iload 4, 2)] = true := by decide +kernel
theorem zr_712L : decode cL_law 393 = .ok (.iaload, 1) ∧ decode cL_law 394 = .ok (.aload_n 0, 1) ∧ decode cL_law 395 = .ok (.iload 4, 2) ∧ decode cL_law 397 = .ok (.iconst 2, 1) ∧ decode cL_law 398 = .ok (.iadd, 1) ∧ decode cL_law 399 = .ok (.iaload, 1) ∧ decode cL_law 400 = .ok (.invokevirtual 49, 3) ∧ decode cL_law 403 = .ok (.pop, 1) ∧ decode cL_law 404 = .ok (.goto 1432, 3) ∧ decode cL_law 407 = .ok (.aload_n 1, 1) ∧ decode cL_law 408 = .ok (.aload_n 0, 1) ∧ decode cL_law 409 = .ok (.iload 4, 2) ∧ True := zj_of zk_712L
abbrev dL_law_393 := zr_712L.1
abbrev dL_law_394 := zr_712L.2.1
abbrev dL_law_395 := zr_712L.2.2.1
abbrev dL_law_397 := zr_712L.2.2.2.1
abbrev dL_law_398 := zr_712L.2.2.2.2.1
abbrev dL_law_399 := zr_712L.2.2.2.2.2.1
abbrev dL_law_400 := zr_712L.2.2.2.2.2.2.1
abbrev dL_law_403 := zr_712L.2.2.2.2.2.2.2.1
abbrev dL_law_404 := zr_712L.2.2.2.2.2.2.2.2.1
abbrev dL_law_407 := zr_712L.2.2.2.2.2.2.2.2.2.1
abbrev dL_law_408 := zr_712L.2.2.2.2.2.2.2.2.2.2.1
abbrev dL_law_409 := zr_712L.2.2.2.2.2.2.2.2.2.2.2.1
set_option maxRecDepth 100000 in
theorem zk_713L : zck 411 (cL_law.data.toList.drop 411) [(411, .iconst 1, 1), (412, .iadd, 1), (413, .iaload, 1), (414, .invokevirtual 50, 3), (417, .pop, 1), (418, .aload_n 2, 1), (419, .aload_n 0, 1), (420, .iload 4, 2), (422, .iconst 1, 1), (423, .iadd, 1), (424, .iaload, 1), (425, .invokevirtual 53, 3)] = true := by decide +kernel
theorem zr_713L : decode cL_law 411 = .ok (.iconst 1, 1) ∧ decode cL_law 412 = .ok (.iadd, 1) ∧ decode cL_law 413 = .ok (.iaload, 1) ∧ decode cL_law 414 = .ok (.invokevirtual 50, 3) ∧ decode cL_law 417 = .ok (.pop, 1) ∧ decode cL_law 418 = .ok (.aload_n 2, 1) ∧ decode cL_law 419 = .ok (.aload_n 0, 1) ∧ decode cL_law 420 = .ok (.iload 4, 2) ∧ decode cL_law 422 = .ok (.iconst 1, 1) ∧ decode cL_law 423 = .ok (.iadd, 1) ∧ decode cL_law 424 = .ok (.iaload, 1) ∧ decode cL_law 425 = .ok (.invokevirtual 53, 3) ∧ True := zj_of zk_713L
abbrev dL_law_411 := zr_713L.1
abbrev dL_law_412 := zr_713L.2.1
abbrev dL_law_413 := zr_713L.2.2.1
abbrev dL_law_414 := zr_713L.2.2.2.1
abbrev dL_law_417 := zr_713L.2.2.2.2.1
abbrev dL_law_418 := zr_713L.2.2.2.2.2.1
abbrev dL_law_419 := zr_713L.2.2.2.2.2.2.1
abbrev dL_law_420 := zr_713L.2.2.2.2.2.2.2.1
abbrev dL_law_422 := zr_713L.2.2.2.2.2.2.2.2.1
abbrev dL_law_423 := zr_713L.2.2.2.2.2.2.2.2.2.1
abbrev dL_law_424 := zr_713L.2.2.2.2.2.2.2.2.2.2.1
abbrev dL_law_425 := zr_713L.2.2.2.2.2.2.2.2.2.2.2.1
set_option maxRecDepth 100000 in
theorem zk_714L : zck 428 (cL_law.data.toList.drop 428) [(428, .pop, 1), (429, .goto 1407, 3), (432, .aload_n 1, 1), (433, .aload_n 0, 1), (434, .iload 4, 2), (436, .iconst 1, 1), (437, .iadd, 1), (438, .iaload, 1), (439, .invokevirtual 54, 3), (442, .pop, 1), (443, .aload_n 2, 1), (444, .aload_n 0, 1)] = true := by decide +kernel
theorem zr_714L : decode cL_law 428 = .ok (.pop, 1) ∧ decode cL_law 429 = .ok (.goto 1407, 3) ∧ decode cL_law 432 = .ok (.aload_n 1, 1) ∧ decode cL_law 433 = .ok (.aload_n 0, 1) ∧ decode cL_law 434 = .ok (.iload 4, 2) ∧ decode cL_law 436 = .ok (.iconst 1, 1) ∧ decode cL_law 437 = .ok (.iadd, 1) ∧ decode cL_law 438 = .ok (.iaload, 1) ∧ decode cL_law 439 = .ok (.invokevirtual 54, 3) ∧ decode cL_law 442 = .ok (.pop, 1) ∧ decode cL_law 443 = .ok (.aload_n 2, 1) ∧ decode cL_law 444 = .ok (.aload_n 0, 1) ∧ True := zj_of zk_714L
abbrev dL_law_428 := zr_714L.1
abbrev dL_law_429 := zr_714L.2.1
abbrev dL_law_432 := zr_714L.2.2.1
abbrev dL_law_433 := zr_714L.2.2.2.1
abbrev dL_law_434 := zr_714L.2.2.2.2.1
abbrev dL_law_436 := zr_714L.2.2.2.2.2.1
abbrev dL_law_437 := zr_714L.2.2.2.2.2.2.1
abbrev dL_law_438 := zr_714L.2.2.2.2.2.2.2.1
abbrev dL_law_439 := zr_714L.2.2.2.2.2.2.2.2.1
abbrev dL_law_442 := zr_714L.2.2.2.2.2.2.2.2.2.1
abbrev dL_law_443 := zr_714L.2.2.2.2.2.2.2.2.2.2.1
abbrev dL_law_444 := zr_714L.2.2.2.2.2.2.2.2.2.2.2.1
set_option maxRecDepth 100000 in
theorem zk_715L : zck 445 (cL_law.data.toList.drop 445) [(445, .iload 4, 2), (447, .iconst 1, 1), (448, .iadd, 1), (449, .iaload, 1), (450, .invokevirtual 58, 3), (453, .pop, 1), (454, .goto 1382, 3), (457, .aload_n 1, 1), (458, .aload_n 0, 1), (459, .iload 4, 2), (461, .iconst 1, 1), (462, .iadd, 1)] = true := by decide +kernel
theorem zr_715L : decode cL_law 445 = .ok (.iload 4, 2) ∧ decode cL_law 447 = .ok (.iconst 1, 1) ∧ decode cL_law 448 = .ok (.iadd, 1) ∧ decode cL_law 449 = .ok (.iaload, 1) ∧ decode cL_law 450 = .ok (.invokevirtual 58, 3) ∧ decode cL_law 453 = .ok (.pop, 1) ∧ decode cL_law 454 = .ok (.goto 1382, 3) ∧ decode cL_law 457 = .ok (.aload_n 1, 1) ∧ decode cL_law 458 = .ok (.aload_n 0, 1) ∧ decode cL_law 459 = .ok (.iload 4, 2) ∧ decode cL_law 461 = .ok (.iconst 1, 1) ∧ decode cL_law 462 = .ok (.iadd, 1) ∧ True := zj_of zk_715L
abbrev dL_law_445 := zr_715L.1
abbrev dL_law_447 := zr_715L.2.1
abbrev dL_law_448 := zr_715L.2.2.1
abbrev dL_law_449 := zr_715L.2.2.2.1
abbrev dL_law_450 := zr_715L.2.2.2.2.1
abbrev dL_law_453 := zr_715L.2.2.2.2.2.1
abbrev dL_law_454 := zr_715L.2.2.2.2.2.2.1
abbrev dL_law_457 := zr_715L.2.2.2.2.2.2.2.1
abbrev dL_law_458 := zr_715L.2.2.2.2.2.2.2.2.1
abbrev dL_law_459 := zr_715L.2.2.2.2.2.2.2.2.2.1
abbrev dL_law_461 := zr_715L.2.2.2.2.2.2.2.2.2.2.1
abbrev dL_law_462 := zr_715L.2.2.2.2.2.2.2.2.2.2.2.1
set_option maxRecDepth 100000 in
theorem zk_716L : zck 463 (cL_law.data.toList.drop 463) [(463, .iaload, 1), (464, .invokevirtual 59, 3), (467, .pop, 1), (468, .aload_n 2, 1), (469, .aload_n 0, 1), (470, .iload 4, 2), (472, .iconst 1, 1), (473, .iadd, 1), (474, .iaload, 1), (475, .invokevirtual 62, 3), (478, .pop, 1), (479, .goto 1357, 3)] = true := by decide +kernel
theorem zr_716L : decode cL_law 463 = .ok (.iaload, 1) ∧ decode cL_law 464 = .ok (.invokevirtual 59, 3) ∧ decode cL_law 467 = .ok (.pop, 1) ∧ decode cL_law 468 = .ok (.aload_n 2, 1) ∧ decode cL_law 469 = .ok (.aload_n 0, 1) ∧ decode cL_law 470 = .ok (.iload 4, 2) ∧ decode cL_law 472 = .ok (.iconst 1, 1) ∧ decode cL_law 473 = .ok (.iadd, 1) ∧ decode cL_law 474 = .ok (.iaload, 1) ∧ decode cL_law 475 = .ok (.invokevirtual 62, 3) ∧ decode cL_law 478 = .ok (.pop, 1) ∧ decode cL_law 479 = .ok (.goto 1357, 3) ∧ True := zj_of zk_716L
abbrev dL_law_463 := zr_716L.1
abbrev dL_law_464 := zr_716L.2.1
abbrev dL_law_467 := zr_716L.2.2.1
abbrev dL_law_468 := zr_716L.2.2.2.1
abbrev dL_law_469 := zr_716L.2.2.2.2.1
abbrev dL_law_470 := zr_716L.2.2.2.2.2.1
abbrev dL_law_472 := zr_716L.2.2.2.2.2.2.1
abbrev dL_law_473 := zr_716L.2.2.2.2.2.2.2.1
abbrev dL_law_474 := zr_716L.2.2.2.2.2.2.2.2.1
abbrev dL_law_475 := zr_716L.2.2.2.2.2.2.2.2.2.1
abbrev dL_law_478 := zr_716L.2.2.2.2.2.2.2.2.2.2.1
abbrev dL_law_479 := zr_716L.2.2.2.2.2.2.2.2.2.2.2.1
set_option maxRecDepth 100000 in
theorem zk_717L : zck 482 (cL_law.data.toList.drop 482) [(482, .aload_n 1, 1), (483, .aload_n 0, 1), (484, .iload 4, 2), (486, .iconst 1, 1), (487, .iadd, 1), (488, .iaload, 1), (489, .aload_n 0, 1), (490, .iload 4, 2), (492, .iconst 2, 1), (493, .iadd, 1), (494, .iaload, 1), (495, .invokevirtual 63, 3)] = true := by decide +kernel
theorem zr_717L : decode cL_law 482 = .ok (.aload_n 1, 1) ∧ decode cL_law 483 = .ok (.aload_n 0, 1) ∧ decode cL_law 484 = .ok (.iload 4, 2) ∧ decode cL_law 486 = .ok (.iconst 1, 1) ∧ decode cL_law 487 = .ok (.iadd, 1) ∧ decode cL_law 488 = .ok (.iaload, 1) ∧ decode cL_law 489 = .ok (.aload_n 0, 1) ∧ decode cL_law 490 = .ok (.iload 4, 2) ∧ decode cL_law 492 = .ok (.iconst 2, 1) ∧ decode cL_law 493 = .ok (.iadd, 1) ∧ decode cL_law 494 = .ok (.iaload, 1) ∧ decode cL_law 495 = .ok (.invokevirtual 63, 3) ∧ True := zj_of zk_717L
abbrev dL_law_482 := zr_717L.1
abbrev dL_law_483 := zr_717L.2.1
abbrev dL_law_484 := zr_717L.2.2.1
abbrev dL_law_486 := zr_717L.2.2.2.1
abbrev dL_law_487 := zr_717L.2.2.2.2.1
abbrev dL_law_488 := zr_717L.2.2.2.2.2.1
abbrev dL_law_489 := zr_717L.2.2.2.2.2.2.1
abbrev dL_law_490 := zr_717L.2.2.2.2.2.2.2.1
abbrev dL_law_492 := zr_717L.2.2.2.2.2.2.2.2.1
abbrev dL_law_493 := zr_717L.2.2.2.2.2.2.2.2.2.1
abbrev dL_law_494 := zr_717L.2.2.2.2.2.2.2.2.2.2.1
abbrev dL_law_495 := zr_717L.2.2.2.2.2.2.2.2.2.2.2.1
set_option maxRecDepth 100000 in
theorem zk_718L : zck 498 (cL_law.data.toList.drop 498) [(498, .pop, 1), (499, .aload_n 2, 1), (500, .aload_n 0, 1), (501, .iload 4, 2), (503, .iconst 1, 1), (504, .iadd, 1), (505, .iaload, 1), (506, .aload_n 0, 1), (507, .iload 4, 2), (509, .iconst 2, 1), (510, .iadd, 1), (511, .iaload, 1)] = true := by decide +kernel
theorem zr_718L : decode cL_law 498 = .ok (.pop, 1) ∧ decode cL_law 499 = .ok (.aload_n 2, 1) ∧ decode cL_law 500 = .ok (.aload_n 0, 1) ∧ decode cL_law 501 = .ok (.iload 4, 2) ∧ decode cL_law 503 = .ok (.iconst 1, 1) ∧ decode cL_law 504 = .ok (.iadd, 1) ∧ decode cL_law 505 = .ok (.iaload, 1) ∧ decode cL_law 506 = .ok (.aload_n 0, 1) ∧ decode cL_law 507 = .ok (.iload 4, 2) ∧ decode cL_law 509 = .ok (.iconst 2, 1) ∧ decode cL_law 510 = .ok (.iadd, 1) ∧ decode cL_law 511 = .ok (.iaload, 1) ∧ True := zj_of zk_718L
abbrev dL_law_498 := zr_718L.1
abbrev dL_law_499 := zr_718L.2.1
abbrev dL_law_500 := zr_718L.2.2.1
abbrev dL_law_501 := zr_718L.2.2.2.1
abbrev dL_law_503 := zr_718L.2.2.2.2.1
abbrev dL_law_504 := zr_718L.2.2.2.2.2.1
abbrev dL_law_505 := zr_718L.2.2.2.2.2.2.1
abbrev dL_law_506 := zr_718L.2.2.2.2.2.2.2.1
abbrev dL_law_507 := zr_718L.2.2.2.2.2.2.2.2.1
abbrev dL_law_509 := zr_718L.2.2.2.2.2.2.2.2.2.1
abbrev dL_law_510 := zr_718L.2.2.2.2.2.2.2.2.2.2.1
abbrev dL_law_511 := zr_718L.2.2.2.2.2.2.2.2.2.2.2.1
set_option maxRecDepth 100000 in
theorem zk_719L : zck 512 (cL_law.data.toList.drop 512) [(512, .invokevirtual 66, 3), (515, .pop, 1), (516, .goto 1320, 3), (519, .aload_n 1, 1), (520, .aload_n 0, 1), (521, .iload 4, 2), (523, .iconst 1, 1), (524, .iadd, 1), (525, .iaload, 1), (526, .aload_n 0, 1), (527, .iload 4, 2), (529, .iconst 2, 1)] = true := by decide +kernel
theorem zr_719L : decode cL_law 512 = .ok (.invokevirtual 66, 3) ∧ decode cL_law 515 = .ok (.pop, 1) ∧ decode cL_law 516 = .ok (.goto 1320, 3) ∧ decode cL_law 519 = .ok (.aload_n 1, 1) ∧ decode cL_law 520 = .ok (.aload_n 0, 1) ∧ decode cL_law 521 = .ok (.iload 4, 2) ∧ decode cL_law 523 = .ok (.iconst 1, 1) ∧ decode cL_law 524 = .ok (.iadd, 1) ∧ decode cL_law 525 = .ok (.iaload, 1) ∧ decode cL_law 526 = .ok (.aload_n 0, 1) ∧ decode cL_law 527 = .ok (.iload 4, 2) ∧ decode cL_law 529 = .ok (.iconst 2, 1) ∧ True := zj_of zk_719L
abbrev dL_law_512 := zr_719L.1
abbrev dL_law_515 := zr_719L.2.1
abbrev dL_law_516 := zr_719L.2.2.1
abbrev dL_law_519 := zr_719L.2.2.2.1
abbrev dL_law_520 := zr_719L.2.2.2.2.1
abbrev dL_law_521 := zr_719L.2.2.2.2.2.1
abbrev dL_law_523 := zr_719L.2.2.2.2.2.2.1
abbrev dL_law_524 := zr_719L.2.2.2.2.2.2.2.1
abbrev dL_law_525 := zr_719L.2.2.2.2.2.2.2.2.1
abbrev dL_law_526 := zr_719L.2.2.2.2.2.2.2.2.2.1
abbrev dL_law_527 := zr_719L.2.2.2.2.2.2.2.2.2.2.1
abbrev dL_law_529 := zr_719L.2.2.2.2.2.2.2.2.2.2.2.1
set_option maxRecDepth 100000 in
theorem zk_720L : zck 530 (cL_law.data.toList.drop 530) [(530, .iadd, 1), (531, .iaload, 1), (532, .invokevirtual 67, 3), (535, .pop, 1), (536, .aload_n 2, 1), (537, .aload_n 0, 1), (538, .iload 4, 2), (540, .iconst 1, 1), (541, .iadd, 1), (542, .iaload, 1), (543, .aload_n 0, 1), (544, .iload 4, 2)] = true := by decide +kernel
theorem zr_720L : decode cL_law 530 = .ok (.iadd, 1) ∧ decode cL_law 531 = .ok (.iaload, 1) ∧ decode cL_law 532 = .ok (.invokevirtual 67, 3) ∧ decode cL_law 535 = .ok (.pop, 1) ∧ decode cL_law 536 = .ok (.aload_n 2, 1) ∧ decode cL_law 537 = .ok (.aload_n 0, 1) ∧ decode cL_law 538 = .ok (.iload 4, 2) ∧ decode cL_law 540 = .ok (.iconst 1, 1) ∧ decode cL_law 541 = .ok (.iadd, 1) ∧ decode cL_law 542 = .ok (.iaload, 1) ∧ decode cL_law 543 = .ok (.aload_n 0, 1) ∧ decode cL_law 544 = .ok (.iload 4, 2) ∧ True := zj_of zk_720L
abbrev dL_law_530 := zr_720L.1
abbrev dL_law_531 := zr_720L.2.1
abbrev dL_law_532 := zr_720L.2.2.1
abbrev dL_law_535 := zr_720L.2.2.2.1
abbrev dL_law_536 := zr_720L.2.2.2.2.1
abbrev dL_law_537 := zr_720L.2.2.2.2.2.1
abbrev dL_law_538 := zr_720L.2.2.2.2.2.2.1
abbrev dL_law_540 := zr_720L.2.2.2.2.2.2.2.1
abbrev dL_law_541 := zr_720L.2.2.2.2.2.2.2.2.1
abbrev dL_law_542 := zr_720L.2.2.2.2.2.2.2.2.2.1
abbrev dL_law_543 := zr_720L.2.2.2.2.2.2.2.2.2.2.1
abbrev dL_law_544 := zr_720L.2.2.2.2.2.2.2.2.2.2.2.1
set_option maxRecDepth 100000 in
theorem zk_721L : zck 546 (cL_law.data.toList.drop 546) [(546, .iconst 2, 1), (547, .iadd, 1), (548, .iaload, 1), (549, .invokevirtual 70, 3), (552, .pop, 1), (553, .goto 1283, 3), (556, .aload_n 1, 1), (557, .invokevirtual 71, 3), (560, .pop, 1), (561, .aload_n 2, 1), (562, .invokevirtual 74, 3), (565, .pop, 1)] = true := by decide +kernel
theorem zr_721L : decode cL_law 546 = .ok (.iconst 2, 1) ∧ decode cL_law 547 = .ok (.iadd, 1) ∧ decode cL_law 548 = .ok (.iaload, 1) ∧ decode cL_law 549 = .ok (.invokevirtual 70, 3) ∧ decode cL_law 552 = .ok (.pop, 1) ∧ decode cL_law 553 = .ok (.goto 1283, 3) ∧ decode cL_law 556 = .ok (.aload_n 1, 1) ∧ decode cL_law 557 = .ok (.invokevirtual 71, 3) ∧ decode cL_law 560 = .ok (.pop, 1) ∧ decode cL_law 561 = .ok (.aload_n 2, 1) ∧ decode cL_law 562 = .ok (.invokevirtual 74, 3) ∧ decode cL_law 565 = .ok (.pop, 1) ∧ True := zj_of zk_721L
abbrev dL_law_546 := zr_721L.1
abbrev dL_law_547 := zr_721L.2.1
abbrev dL_law_548 := zr_721L.2.2.1
abbrev dL_law_549 := zr_721L.2.2.2.1
abbrev dL_law_552 := zr_721L.2.2.2.2.1
abbrev dL_law_553 := zr_721L.2.2.2.2.2.1
abbrev dL_law_556 := zr_721L.2.2.2.2.2.2.1
abbrev dL_law_557 := zr_721L.2.2.2.2.2.2.2.1
abbrev dL_law_560 := zr_721L.2.2.2.2.2.2.2.2.1
abbrev dL_law_561 := zr_721L.2.2.2.2.2.2.2.2.2.1
abbrev dL_law_562 := zr_721L.2.2.2.2.2.2.2.2.2.2.1
abbrev dL_law_565 := zr_721L.2.2.2.2.2.2.2.2.2.2.2.1
set_option maxRecDepth 100000 in
theorem zk_722L : zck 566 (cL_law.data.toList.drop 566) [(566, .goto 1270, 3), (569, .aload_n 1, 1), (570, .invokevirtual 75, 3), (573, .pop, 1), (574, .aload_n 2, 1), (575, .invokevirtual 78, 3), (578, .pop, 1), (579, .goto 1257, 3), (582, .aload_n 1, 1), (583, .aload_n 0, 1), (584, .iload 4, 2), (586, .iconst 1, 1)] = true := by decide +kernel
theorem zr_722L : decode cL_law 566 = .ok (.goto 1270, 3) ∧ decode cL_law 569 = .ok (.aload_n 1, 1) ∧ decode cL_law 570 = .ok (.invokevirtual 75, 3) ∧ decode cL_law 573 = .ok (.pop, 1) ∧ decode cL_law 574 = .ok (.aload_n 2, 1) ∧ decode cL_law 575 = .ok (.invokevirtual 78, 3) ∧ decode cL_law 578 = .ok (.pop, 1) ∧ decode cL_law 579 = .ok (.goto 1257, 3) ∧ decode cL_law 582 = .ok (.aload_n 1, 1) ∧ decode cL_law 583 = .ok (.aload_n 0, 1) ∧ decode cL_law 584 = .ok (.iload 4, 2) ∧ decode cL_law 586 = .ok (.iconst 1, 1) ∧ True := zj_of zk_722L
abbrev dL_law_566 := zr_722L.1
abbrev dL_law_569 := zr_722L.2.1
abbrev dL_law_570 := zr_722L.2.2.1
abbrev dL_law_573 := zr_722L.2.2.2.1
abbrev dL_law_574 := zr_722L.2.2.2.2.1
abbrev dL_law_575 := zr_722L.2.2.2.2.2.1
abbrev dL_law_578 := zr_722L.2.2.2.2.2.2.1
abbrev dL_law_579 := zr_722L.2.2.2.2.2.2.2.1
abbrev dL_law_582 := zr_722L.2.2.2.2.2.2.2.2.1
abbrev dL_law_583 := zr_722L.2.2.2.2.2.2.2.2.2.1
abbrev dL_law_584 := zr_722L.2.2.2.2.2.2.2.2.2.2.1
abbrev dL_law_586 := zr_722L.2.2.2.2.2.2.2.2.2.2.2.1
set_option maxRecDepth 100000 in
theorem zk_723L : zck 587 (cL_law.data.toList.drop 587) [(587, .iadd, 1), (588, .iaload, 1), (589, .aload_n 0, 1), (590, .iload 4, 2), (592, .iconst 2, 1), (593, .iadd, 1), (594, .iaload, 1), (595, .aload_n 0, 1), (596, .iload 4, 2), (598, .iconst 3, 1), (599, .iadd, 1), (600, .iaload, 1)] = true := by decide +kernel
theorem zr_723L : decode cL_law 587 = .ok (.iadd, 1) ∧ decode cL_law 588 = .ok (.iaload, 1) ∧ decode cL_law 589 = .ok (.aload_n 0, 1) ∧ decode cL_law 590 = .ok (.iload 4, 2) ∧ decode cL_law 592 = .ok (.iconst 2, 1) ∧ decode cL_law 593 = .ok (.iadd, 1) ∧ decode cL_law 594 = .ok (.iaload, 1) ∧ decode cL_law 595 = .ok (.aload_n 0, 1) ∧ decode cL_law 596 = .ok (.iload 4, 2) ∧ decode cL_law 598 = .ok (.iconst 3, 1) ∧ decode cL_law 599 = .ok (.iadd, 1) ∧ decode cL_law 600 = .ok (.iaload, 1) ∧ True := zj_of zk_723L
abbrev dL_law_587 := zr_723L.1
abbrev dL_law_588 := zr_723L.2.1
abbrev dL_law_589 := zr_723L.2.2.1
abbrev dL_law_590 := zr_723L.2.2.2.1
abbrev dL_law_592 := zr_723L.2.2.2.2.1
abbrev dL_law_593 := zr_723L.2.2.2.2.2.1
abbrev dL_law_594 := zr_723L.2.2.2.2.2.2.1
abbrev dL_law_595 := zr_723L.2.2.2.2.2.2.2.1
abbrev dL_law_596 := zr_723L.2.2.2.2.2.2.2.2.1
abbrev dL_law_598 := zr_723L.2.2.2.2.2.2.2.2.2.1
abbrev dL_law_599 := zr_723L.2.2.2.2.2.2.2.2.2.2.1
abbrev dL_law_600 := zr_723L.2.2.2.2.2.2.2.2.2.2.2.1
set_option maxRecDepth 100000 in
theorem zk_724L : zck 601 (cL_law.data.toList.drop 601) [(601, .invokevirtual 79, 3), (604, .pop, 1), (605, .aload_n 2, 1), (606, .aload_n 0, 1), (607, .iload 4, 2), (609, .iconst 1, 1), (610, .iadd, 1), (611, .iaload, 1), (612, .aload_n 0, 1), (613, .iload 4, 2), (615, .iconst 2, 1), (616, .iadd, 1)] = true := by decide +kernel
theorem zr_724L : decode cL_law 601 = .ok (.invokevirtual 79, 3) ∧ decode cL_law 604 = .ok (.pop, 1) ∧ decode cL_law 605 = .ok (.aload_n 2, 1) ∧ decode cL_law 606 = .ok (.aload_n 0, 1) ∧ decode cL_law 607 = .ok (.iload 4, 2) ∧ decode cL_law 609 = .ok (.iconst 1, 1) ∧ decode cL_law 610 = .ok (.iadd, 1) ∧ decode cL_law 611 = .ok (.iaload, 1) ∧ decode cL_law 612 = .ok (.aload_n 0, 1) ∧ decode cL_law 613 = .ok (.iload 4, 2) ∧ decode cL_law 615 = .ok (.iconst 2, 1) ∧ decode cL_law 616 = .ok (.iadd, 1) ∧ True := zj_of zk_724L
abbrev dL_law_601 := zr_724L.1
abbrev dL_law_604 := zr_724L.2.1
abbrev dL_law_605 := zr_724L.2.2.1
abbrev dL_law_606 := zr_724L.2.2.2.1
abbrev dL_law_607 := zr_724L.2.2.2.2.1
abbrev dL_law_609 := zr_724L.2.2.2.2.2.1
abbrev dL_law_610 := zr_724L.2.2.2.2.2.2.1
abbrev dL_law_611 := zr_724L.2.2.2.2.2.2.2.1
abbrev dL_law_612 := zr_724L.2.2.2.2.2.2.2.2.1
abbrev dL_law_613 := zr_724L.2.2.2.2.2.2.2.2.2.1
abbrev dL_law_615 := zr_724L.2.2.2.2.2.2.2.2.2.2.1
abbrev dL_law_616 := zr_724L.2.2.2.2.2.2.2.2.2.2.2.1
set_option maxRecDepth 100000 in
theorem zk_725L : zck 617 (cL_law.data.toList.drop 617) [(617, .iaload, 1), (618, .aload_n 0, 1), (619, .iload 4, 2), (621, .iconst 3, 1), (622, .iadd, 1), (623, .iaload, 1), (624, .invokevirtual 83, 3), (627, .pop, 1), (628, .goto 1208, 3), (631, .aload_n 1, 1), (632, .aload_n 0, 1), (633, .iload 4, 2)] = true := by decide +kernel
theorem zr_725L : decode cL_law 617 = .ok (.iaload, 1) ∧ decode cL_law 618 = .ok (.aload_n 0, 1) ∧ decode cL_law 619 = .ok (.iload 4, 2) ∧ decode cL_law 621 = .ok (.iconst 3, 1) ∧ decode cL_law 622 = .ok (.iadd, 1) ∧ decode cL_law 623 = .ok (.iaload, 1) ∧ decode cL_law 624 = .ok (.invokevirtual 83, 3) ∧ decode cL_law 627 = .ok (.pop, 1) ∧ decode cL_law 628 = .ok (.goto 1208, 3) ∧ decode cL_law 631 = .ok (.aload_n 1, 1) ∧ decode cL_law 632 = .ok (.aload_n 0, 1) ∧ decode cL_law 633 = .ok (.iload 4, 2) ∧ True := zj_of zk_725L
abbrev dL_law_617 := zr_725L.1
abbrev dL_law_618 := zr_725L.2.1
abbrev dL_law_619 := zr_725L.2.2.1
abbrev dL_law_621 := zr_725L.2.2.2.1
abbrev dL_law_622 := zr_725L.2.2.2.2.1
abbrev dL_law_623 := zr_725L.2.2.2.2.2.1
abbrev dL_law_624 := zr_725L.2.2.2.2.2.2.1
abbrev dL_law_627 := zr_725L.2.2.2.2.2.2.2.1
abbrev dL_law_628 := zr_725L.2.2.2.2.2.2.2.2.1
abbrev dL_law_631 := zr_725L.2.2.2.2.2.2.2.2.2.1
abbrev dL_law_632 := zr_725L.2.2.2.2.2.2.2.2.2.2.1
abbrev dL_law_633 := zr_725L.2.2.2.2.2.2.2.2.2.2.2.1
set_option maxRecDepth 100000 in
theorem zk_726L : zck 635 (cL_law.data.toList.drop 635) [(635, .iconst 1, 1), (636, .iadd, 1), (637, .iaload, 1), (638, .aload_n 0, 1), (639, .iload 4, 2), (641, .iconst 2, 1), (642, .iadd, 1), (643, .iaload, 1), (644, .invokevirtual 84, 3), (647, .pop, 1), (648, .aload_n 2, 1), (649, .aload_n 0, 1)] = true := by decide +kernel
theorem zr_726L : decode cL_law 635 = .ok (.iconst 1, 1) ∧ decode cL_law 636 = .ok (.iadd, 1) ∧ decode cL_law 637 = .ok (.iaload, 1) ∧ decode cL_law 638 = .ok (.aload_n 0, 1) ∧ decode cL_law 639 = .ok (.iload 4, 2) ∧ decode cL_law 641 = .ok (.iconst 2, 1) ∧ decode cL_law 642 = .ok (.iadd, 1) ∧ decode cL_law 643 = .ok (.iaload, 1) ∧ decode cL_law 644 = .ok (.invokevirtual 84, 3) ∧ decode cL_law 647 = .ok (.pop, 1) ∧ decode cL_law 648 = .ok (.aload_n 2, 1) ∧ decode cL_law 649 = .ok (.aload_n 0, 1) ∧ True := zj_of zk_726L
abbrev dL_law_635 := zr_726L.1
abbrev dL_law_636 := zr_726L.2.1
abbrev dL_law_637 := zr_726L.2.2.1
abbrev dL_law_638 := zr_726L.2.2.2.1
abbrev dL_law_639 := zr_726L.2.2.2.2.1
abbrev dL_law_641 := zr_726L.2.2.2.2.2.1
abbrev dL_law_642 := zr_726L.2.2.2.2.2.2.1
abbrev dL_law_643 := zr_726L.2.2.2.2.2.2.2.1
abbrev dL_law_644 := zr_726L.2.2.2.2.2.2.2.2.1
abbrev dL_law_647 := zr_726L.2.2.2.2.2.2.2.2.2.1
abbrev dL_law_648 := zr_726L.2.2.2.2.2.2.2.2.2.2.1
abbrev dL_law_649 := zr_726L.2.2.2.2.2.2.2.2.2.2.2.1
set_option maxRecDepth 100000 in
theorem zk_727L : zck 650 (cL_law.data.toList.drop 650) [(650, .iload 4, 2), (652, .iconst 1, 1), (653, .iadd, 1), (654, .iaload, 1), (655, .aload_n 0, 1), (656, .iload 4, 2), (658, .iconst 2, 1), (659, .iadd, 1), (660, .iaload, 1), (661, .invokevirtual 87, 3), (664, .pop, 1), (665, .goto 1171, 3)] = true := by decide +kernel
theorem zr_727L : decode cL_law 650 = .ok (.iload 4, 2) ∧ decode cL_law 652 = .ok (.iconst 1, 1) ∧ decode cL_law 653 = .ok (.iadd, 1) ∧ decode cL_law 654 = .ok (.iaload, 1) ∧ decode cL_law 655 = .ok (.aload_n 0, 1) ∧ decode cL_law 656 = .ok (.iload 4, 2) ∧ decode cL_law 658 = .ok (.iconst 2, 1) ∧ decode cL_law 659 = .ok (.iadd, 1) ∧ decode cL_law 660 = .ok (.iaload, 1) ∧ decode cL_law 661 = .ok (.invokevirtual 87, 3) ∧ decode cL_law 664 = .ok (.pop, 1) ∧ decode cL_law 665 = .ok (.goto 1171, 3) ∧ True := zj_of zk_727L
abbrev dL_law_650 := zr_727L.1
abbrev dL_law_652 := zr_727L.2.1
abbrev dL_law_653 := zr_727L.2.2.1
abbrev dL_law_654 := zr_727L.2.2.2.1
abbrev dL_law_655 := zr_727L.2.2.2.2.1
abbrev dL_law_656 := zr_727L.2.2.2.2.2.1
abbrev dL_law_658 := zr_727L.2.2.2.2.2.2.1
abbrev dL_law_659 := zr_727L.2.2.2.2.2.2.2.1
abbrev dL_law_660 := zr_727L.2.2.2.2.2.2.2.2.1
abbrev dL_law_661 := zr_727L.2.2.2.2.2.2.2.2.2.1
abbrev dL_law_664 := zr_727L.2.2.2.2.2.2.2.2.2.2.1
abbrev dL_law_665 := zr_727L.2.2.2.2.2.2.2.2.2.2.2.1
set_option maxRecDepth 100000 in
theorem zk_728L : zck 668 (cL_law.data.toList.drop 668) [(668, .aload_n 1, 1), (669, .aload_n 0, 1), (670, .iload 4, 2), (672, .iconst 1, 1), (673, .iadd, 1), (674, .iaload, 1), (675, .aload_n 0, 1), (676, .iload 4, 2), (678, .iconst 2, 1), (679, .iadd, 1), (680, .iaload, 1), (681, .invokevirtual 88, 3)] = true := by decide +kernel
theorem zr_728L : decode cL_law 668 = .ok (.aload_n 1, 1) ∧ decode cL_law 669 = .ok (.aload_n 0, 1) ∧ decode cL_law 670 = .ok (.iload 4, 2) ∧ decode cL_law 672 = .ok (.iconst 1, 1) ∧ decode cL_law 673 = .ok (.iadd, 1) ∧ decode cL_law 674 = .ok (.iaload, 1) ∧ decode cL_law 675 = .ok (.aload_n 0, 1) ∧ decode cL_law 676 = .ok (.iload 4, 2) ∧ decode cL_law 678 = .ok (.iconst 2, 1) ∧ decode cL_law 679 = .ok (.iadd, 1) ∧ decode cL_law 680 = .ok (.iaload, 1) ∧ decode cL_law 681 = .ok (.invokevirtual 88, 3) ∧ True := zj_of zk_728L
abbrev dL_law_668 := zr_728L.1
abbrev dL_law_669 := zr_728L.2.1
abbrev dL_law_670 := zr_728L.2.2.1
abbrev dL_law_672 := zr_728L.2.2.2.1
abbrev dL_law_673 := zr_728L.2.2.2.2.1
abbrev dL_law_674 := zr_728L.2.2.2.2.2.1
abbrev dL_law_675 := zr_728L.2.2.2.2.2.2.1
abbrev dL_law_676 := zr_728L.2.2.2.2.2.2.2.1
abbrev dL_law_678 := zr_728L.2.2.2.2.2.2.2.2.1
abbrev dL_law_679 := zr_728L.2.2.2.2.2.2.2.2.2.1
abbrev dL_law_680 := zr_728L.2.2.2.2.2.2.2.2.2.2.1
abbrev dL_law_681 := zr_728L.2.2.2.2.2.2.2.2.2.2.2.1
set_option maxRecDepth 100000 in
theorem zk_729L : zck 684 (cL_law.data.toList.drop 684) [(684, .pop, 1), (685, .aload_n 2, 1), (686, .aload_n 0, 1), (687, .iload 4, 2), (689, .iconst 1, 1), (690, .iadd, 1), (691, .iaload, 1), (692, .aload_n 0, 1), (693, .iload 4, 2), (695, .iconst 2, 1), (696, .iadd, 1), (697, .iaload, 1)] = true := by decide +kernel
theorem zr_729L : decode cL_law 684 = .ok (.pop, 1) ∧ decode cL_law 685 = .ok (.aload_n 2, 1) ∧ decode cL_law 686 = .ok (.aload_n 0, 1) ∧ decode cL_law 687 = .ok (.iload 4, 2) ∧ decode cL_law 689 = .ok (.iconst 1, 1) ∧ decode cL_law 690 = .ok (.iadd, 1) ∧ decode cL_law 691 = .ok (.iaload, 1) ∧ decode cL_law 692 = .ok (.aload_n 0, 1) ∧ decode cL_law 693 = .ok (.iload 4, 2) ∧ decode cL_law 695 = .ok (.iconst 2, 1) ∧ decode cL_law 696 = .ok (.iadd, 1) ∧ decode cL_law 697 = .ok (.iaload, 1) ∧ True := zj_of zk_729L
abbrev dL_law_684 := zr_729L.1
abbrev dL_law_685 := zr_729L.2.1
abbrev dL_law_686 := zr_729L.2.2.1
abbrev dL_law_687 := zr_729L.2.2.2.1
abbrev dL_law_689 := zr_729L.2.2.2.2.1
abbrev dL_law_690 := zr_729L.2.2.2.2.2.1
abbrev dL_law_691 := zr_729L.2.2.2.2.2.2.1
abbrev dL_law_692 := zr_729L.2.2.2.2.2.2.2.1
abbrev dL_law_693 := zr_729L.2.2.2.2.2.2.2.2.1
abbrev dL_law_695 := zr_729L.2.2.2.2.2.2.2.2.2.1
abbrev dL_law_696 := zr_729L.2.2.2.2.2.2.2.2.2.2.1
abbrev dL_law_697 := zr_729L.2.2.2.2.2.2.2.2.2.2.2.1
set_option maxRecDepth 100000 in
theorem zk_730L : zck 698 (cL_law.data.toList.drop 698) [(698, .invokevirtual 91, 3), (701, .pop, 1), (702, .goto 1134, 3), (705, .aload_n 1, 1), (706, .aload_n 0, 1), (707, .iload 4, 2), (709, .iconst 1, 1), (710, .iadd, 1), (711, .iaload, 1), (712, .aload_n 0, 1), (713, .iload 4, 2), (715, .iconst 2, 1)] = true := by decide +kernel
theorem zr_730L : decode cL_law 698 = .ok (.invokevirtual 91, 3) ∧ decode cL_law 701 = .ok (.pop, 1) ∧ decode cL_law 702 = .ok (.goto 1134, 3) ∧ decode cL_law 705 = .ok (.aload_n 1, 1) ∧ decode cL_law 706 = .ok (.aload_n 0, 1) ∧ decode cL_law 707 = .ok (.iload 4, 2) ∧ decode cL_law 709 = .ok (.iconst 1, 1) ∧ decode cL_law 710 = .ok (.iadd, 1) ∧ decode cL_law 711 = .ok (.iaload, 1) ∧ decode cL_law 712 = .ok (.aload_n 0, 1) ∧ decode cL_law 713 = .ok (.iload 4, 2) ∧ decode cL_law 715 = .ok (.iconst 2, 1) ∧ True := zj_of zk_730L
abbrev dL_law_698 := zr_730L.1
abbrev dL_law_701 := zr_730L.2.1
abbrev dL_law_702 := zr_730L.2.2.1
abbrev dL_law_705 := zr_730L.2.2.2.1
abbrev dL_law_706 := zr_730L.2.2.2.2.1
abbrev dL_law_707 := zr_730L.2.2.2.2.2.1
abbrev dL_law_709 := zr_730L.2.2.2.2.2.2.1
abbrev dL_law_710 := zr_730L.2.2.2.2.2.2.2.1
abbrev dL_law_711 := zr_730L.2.2.2.2.2.2.2.2.1
abbrev dL_law_712 := zr_730L.2.2.2.2.2.2.2.2.2.1
abbrev dL_law_713 := zr_730L.2.2.2.2.2.2.2.2.2.2.1
abbrev dL_law_715 := zr_730L.2.2.2.2.2.2.2.2.2.2.2.1
set_option maxRecDepth 100000 in
theorem zk_731L : zck 716 (cL_law.data.toList.drop 716) [(716, .iadd, 1), (717, .iaload, 1), (718, .aload_n 0, 1), (719, .iload 4, 2), (721, .iconst 3, 1), (722, .iadd, 1), (723, .iaload, 1), (724, .aload_n 0, 1), (725, .iload 4, 2), (727, .iconst 4, 1), (728, .iadd, 1), (729, .iaload, 1)] = true := by decide +kernel
theorem zr_731L : decode cL_law 716 = .ok (.iadd, 1) ∧ decode cL_law 717 = .ok (.iaload, 1) ∧ decode cL_law 718 = .ok (.aload_n 0, 1) ∧ decode cL_law 719 = .ok (.iload 4, 2) ∧ decode cL_law 721 = .ok (.iconst 3, 1) ∧ decode cL_law 722 = .ok (.iadd, 1) ∧ decode cL_law 723 = .ok (.iaload, 1) ∧ decode cL_law 724 = .ok (.aload_n 0, 1) ∧ decode cL_law 725 = .ok (.iload 4, 2) ∧ decode cL_law 727 = .ok (.iconst 4, 1) ∧ decode cL_law 728 = .ok (.iadd, 1) ∧ decode cL_law 729 = .ok (.iaload, 1) ∧ True := zj_of zk_731L
abbrev dL_law_716 := zr_731L.1
abbrev dL_law_717 := zr_731L.2.1
abbrev dL_law_718 := zr_731L.2.2.1
abbrev dL_law_719 := zr_731L.2.2.2.1
abbrev dL_law_721 := zr_731L.2.2.2.2.1
abbrev dL_law_722 := zr_731L.2.2.2.2.2.1
abbrev dL_law_723 := zr_731L.2.2.2.2.2.2.1
abbrev dL_law_724 := zr_731L.2.2.2.2.2.2.2.1
abbrev dL_law_725 := zr_731L.2.2.2.2.2.2.2.2.1
abbrev dL_law_727 := zr_731L.2.2.2.2.2.2.2.2.2.1
abbrev dL_law_728 := zr_731L.2.2.2.2.2.2.2.2.2.2.1
abbrev dL_law_729 := zr_731L.2.2.2.2.2.2.2.2.2.2.2.1
set_option maxRecDepth 100000 in
theorem zk_732L : zck 730 (cL_law.data.toList.drop 730) [(730, .invokevirtual 92, 3), (733, .pop, 1), (734, .aload_n 2, 1)] = true := by decide +kernel
theorem zr_732L : decode cL_law 730 = .ok (.invokevirtual 92, 3) ∧ decode cL_law 733 = .ok (.pop, 1) ∧ decode cL_law 734 = .ok (.aload_n 2, 1) ∧ True := zj_of zk_732L
abbrev dL_law_730 := zr_732L.1
abbrev dL_law_733 := zr_732L.2.1
abbrev dL_law_734 := zr_732L.2.2.1
