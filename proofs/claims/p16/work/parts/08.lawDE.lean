theorem db_of {cc : ByteArray} {L : List (Nat × Instr × Nat)} (h : L.all (fun r => decide (decode cc r.1 = .ok r.2)) = true) {pc n : Nat} {i : Instr} (k : Nat) (hk : L[k]? = some (pc, i, n)) : decode cc pc = .ok (i, n) := of_decide_eq_true (List.all_eq_true.mp h (pc, i, n) (List.mem_of_getElem? hk))
set_option maxRecDepth 100000 in
theorem db_0 : ([(0, .aload_n 2, 1), (1, .iconst 0, 1), (2, .aload_n 0, 1), (3, .iload_n 1, 1), (4, .invokevirtual 7, 3), (7, .lastore, 1), (8, .goto 6, 3), (11, .astore_n 3, 1), (12, .iconst 1, 1), (13, .ireturn, 1), (14, .iconst 0, 1), (15, .ireturn, 1)] : List (Nat × Instr × Nat)).all (fun r => decide (decode cL_row r.1 = .ok r.2)) = true := by decide +kernel
theorem dL_row_0 : decode cL_row 0 = .ok (.aload_n 2, 1) := db_of db_0 0 rfl
theorem dL_row_1 : decode cL_row 1 = .ok (.iconst 0, 1) := db_of db_0 1 rfl
theorem dL_row_2 : decode cL_row 2 = .ok (.aload_n 0, 1) := db_of db_0 2 rfl
theorem dL_row_3 : decode cL_row 3 = .ok (.iload_n 1, 1) := db_of db_0 3 rfl
theorem dL_row_4 : decode cL_row 4 = .ok (.invokevirtual 7, 3) := db_of db_0 4 rfl
theorem dL_row_7 : decode cL_row 7 = .ok (.lastore, 1) := db_of db_0 5 rfl
theorem dL_row_8 : decode cL_row 8 = .ok (.goto 6, 3) := db_of db_0 6 rfl
theorem dL_row_11 : decode cL_row 11 = .ok (.astore_n 3, 1) := db_of db_0 7 rfl
theorem dL_row_12 : decode cL_row 12 = .ok (.iconst 1, 1) := db_of db_0 8 rfl
theorem dL_row_13 : decode cL_row 13 = .ok (.ireturn, 1) := db_of db_0 9 rfl
theorem dL_row_14 : decode cL_row 14 = .ok (.iconst 0, 1) := db_of db_0 10 rfl
theorem dL_row_15 : decode cL_row 15 = .ok (.ireturn, 1) := db_of db_0 11 rfl
set_option maxRecDepth 100000 in
theorem db_1 : ([(0, .new 8, 3), (3, .dup, 1), (4, .invokespecial 15, 3), (7, .astore_n 1, 1), (8, .new 16, 3), (11, .dup, 1), (12, .invokespecial 18, 3), (15, .astore_n 2, 1), (16, .iconst 1, 1), (17, .newarray .long, 2), (19, .astore_n 3, 1), (20, .iconst 0, 1), (21, .istore 4, 2), (23, .iload 4, 2), (25, .aload_n 0, 1), (26, .arraylength, 1), (27, .bipush 6, 2), (29, .isub, 1), (30, .if_icmp .gt 1812, 3), (33, .aload_n 0, 1), (34, .iload 4, 2), (36, .iaload, 1), (37, .bipush 63, 2), (39, .iand, 1), (40, .tableswitch 1796 0 40 #[180, 193, 206, 231, 268, 293, 330, 367, 392, 417, 442, 479, 516, 529, 542, 591, 628, 665, 726, 775, 824, 873, 922, 959, 1020, 1057, 1106, 1143, 1192, 1241, 1290, 1327, 1364, 1401, 1438, 1487, 1548, 1609, 1682, 1743, 1768], 180), (220, .aload_n 1, 1), (221, .invokevirtual 19, 3), (224, .pop, 1), (225, .aload_n 2, 1), (226, .invokevirtual 23, 3), (229, .pop, 1), (230, .goto 1606, 3), (233, .aload_n 1, 1), (234, .invokevirtual 24, 3), (237, .pop, 1), (238, .aload_n 2, 1), (239, .invokevirtual 27, 3), (242, .pop, 1), (243, .goto 1593, 3), (246, .aload_n 1, 1), (247, .aload_n 0, 1), (248, .iload 4, 2), (250, .iconst 1, 1), (251, .iadd, 1), (252, .iaload, 1), (253, .invokevirtual 28, 3), (256, .pop, 1), (257, .aload_n 2, 1), (258, .aload_n 0, 1), (259, .iload 4, 2)] : List (Nat × Instr × Nat)).all (fun r => decide (decode cL_law r.1 = .ok r.2)) = true := by decide +kernel
theorem dL_law_0 : decode cL_law 0 = .ok (.new 8, 3) := db_of db_1 0 rfl
theorem dL_law_3 : decode cL_law 3 = .ok (.dup, 1) := db_of db_1 1 rfl
theorem dL_law_4 : decode cL_law 4 = .ok (.invokespecial 15, 3) := db_of db_1 2 rfl
theorem dL_law_7 : decode cL_law 7 = .ok (.astore_n 1, 1) := db_of db_1 3 rfl
theorem dL_law_8 : decode cL_law 8 = .ok (.new 16, 3) := db_of db_1 4 rfl
theorem dL_law_11 : decode cL_law 11 = .ok (.dup, 1) := db_of db_1 5 rfl
theorem dL_law_12 : decode cL_law 12 = .ok (.invokespecial 18, 3) := db_of db_1 6 rfl
theorem dL_law_15 : decode cL_law 15 = .ok (.astore_n 2, 1) := db_of db_1 7 rfl
theorem dL_law_16 : decode cL_law 16 = .ok (.iconst 1, 1) := db_of db_1 8 rfl
theorem dL_law_17 : decode cL_law 17 = .ok (.newarray .long, 2) := db_of db_1 9 rfl
theorem dL_law_19 : decode cL_law 19 = .ok (.astore_n 3, 1) := db_of db_1 10 rfl
theorem dL_law_20 : decode cL_law 20 = .ok (.iconst 0, 1) := db_of db_1 11 rfl
theorem dL_law_21 : decode cL_law 21 = .ok (.istore 4, 2) := db_of db_1 12 rfl
theorem dL_law_23 : decode cL_law 23 = .ok (.iload 4, 2) := db_of db_1 13 rfl
theorem dL_law_25 : decode cL_law 25 = .ok (.aload_n 0, 1) := db_of db_1 14 rfl
theorem dL_law_26 : decode cL_law 26 = .ok (.arraylength, 1) := db_of db_1 15 rfl
theorem dL_law_27 : decode cL_law 27 = .ok (.bipush 6, 2) := db_of db_1 16 rfl
theorem dL_law_29 : decode cL_law 29 = .ok (.isub, 1) := db_of db_1 17 rfl
theorem dL_law_30 : decode cL_law 30 = .ok (.if_icmp .gt 1812, 3) := db_of db_1 18 rfl
theorem dL_law_33 : decode cL_law 33 = .ok (.aload_n 0, 1) := db_of db_1 19 rfl
theorem dL_law_34 : decode cL_law 34 = .ok (.iload 4, 2) := db_of db_1 20 rfl
theorem dL_law_36 : decode cL_law 36 = .ok (.iaload, 1) := db_of db_1 21 rfl
theorem dL_law_37 : decode cL_law 37 = .ok (.bipush 63, 2) := db_of db_1 22 rfl
theorem dL_law_39 : decode cL_law 39 = .ok (.iand, 1) := db_of db_1 23 rfl
theorem dL_law_40 : decode cL_law 40 = .ok (.tableswitch 1796 0 40 #[180, 193, 206, 231, 268, 293, 330, 367, 392, 417, 442, 479, 516, 529, 542, 591, 628, 665, 726, 775, 824, 873, 922, 959, 1020, 1057, 1106, 1143, 1192, 1241, 1290, 1327, 1364, 1401, 1438, 1487, 1548, 1609, 1682, 1743, 1768], 180) := db_of db_1 24 rfl
theorem dL_law_220 : decode cL_law 220 = .ok (.aload_n 1, 1) := db_of db_1 25 rfl
theorem dL_law_221 : decode cL_law 221 = .ok (.invokevirtual 19, 3) := db_of db_1 26 rfl
theorem dL_law_224 : decode cL_law 224 = .ok (.pop, 1) := db_of db_1 27 rfl
theorem dL_law_225 : decode cL_law 225 = .ok (.aload_n 2, 1) := db_of db_1 28 rfl
theorem dL_law_226 : decode cL_law 226 = .ok (.invokevirtual 23, 3) := db_of db_1 29 rfl
theorem dL_law_229 : decode cL_law 229 = .ok (.pop, 1) := db_of db_1 30 rfl
theorem dL_law_230 : decode cL_law 230 = .ok (.goto 1606, 3) := db_of db_1 31 rfl
theorem dL_law_233 : decode cL_law 233 = .ok (.aload_n 1, 1) := db_of db_1 32 rfl
theorem dL_law_234 : decode cL_law 234 = .ok (.invokevirtual 24, 3) := db_of db_1 33 rfl
theorem dL_law_237 : decode cL_law 237 = .ok (.pop, 1) := db_of db_1 34 rfl
theorem dL_law_238 : decode cL_law 238 = .ok (.aload_n 2, 1) := db_of db_1 35 rfl
theorem dL_law_239 : decode cL_law 239 = .ok (.invokevirtual 27, 3) := db_of db_1 36 rfl
theorem dL_law_242 : decode cL_law 242 = .ok (.pop, 1) := db_of db_1 37 rfl
theorem dL_law_243 : decode cL_law 243 = .ok (.goto 1593, 3) := db_of db_1 38 rfl
theorem dL_law_246 : decode cL_law 246 = .ok (.aload_n 1, 1) := db_of db_1 39 rfl
theorem dL_law_247 : decode cL_law 247 = .ok (.aload_n 0, 1) := db_of db_1 40 rfl
theorem dL_law_248 : decode cL_law 248 = .ok (.iload 4, 2) := db_of db_1 41 rfl
theorem dL_law_250 : decode cL_law 250 = .ok (.iconst 1, 1) := db_of db_1 42 rfl
theorem dL_law_251 : decode cL_law 251 = .ok (.iadd, 1) := db_of db_1 43 rfl
theorem dL_law_252 : decode cL_law 252 = .ok (.iaload, 1) := db_of db_1 44 rfl
theorem dL_law_253 : decode cL_law 253 = .ok (.invokevirtual 28, 3) := db_of db_1 45 rfl
theorem dL_law_256 : decode cL_law 256 = .ok (.pop, 1) := db_of db_1 46 rfl
theorem dL_law_257 : decode cL_law 257 = .ok (.aload_n 2, 1) := db_of db_1 47 rfl
theorem dL_law_258 : decode cL_law 258 = .ok (.aload_n 0, 1) := db_of db_1 48 rfl
theorem dL_law_259 : decode cL_law 259 = .ok (.iload 4, 2) := db_of db_1 49 rfl
set_option maxRecDepth 100000 in
theorem db_2 : ([(261, .iconst 1, 1), (262, .iadd, 1), (263, .iaload, 1), (264, .invokevirtual 32, 3), (267, .pop, 1), (268, .goto 1568, 3), (271, .aload_n 1, 1), (272, .aload_n 0, 1), (273, .iload 4, 2), (275, .iconst 1, 1), (276, .iadd, 1), (277, .iaload, 1), (278, .aload_n 0, 1), (279, .iload 4, 2), (281, .iconst 2, 1), (282, .iadd, 1), (283, .iaload, 1), (284, .invokevirtual 33, 3), (287, .pop, 1), (288, .aload_n 2, 1), (289, .aload_n 0, 1), (290, .iload 4, 2), (292, .iconst 1, 1), (293, .iadd, 1), (294, .iaload, 1), (295, .aload_n 0, 1), (296, .iload 4, 2), (298, .iconst 2, 1), (299, .iadd, 1), (300, .iaload, 1), (301, .invokevirtual 37, 3), (304, .pop, 1), (305, .goto 1531, 3), (308, .aload_n 1, 1), (309, .aload_n 0, 1), (310, .iload 4, 2), (312, .iconst 1, 1), (313, .iadd, 1), (314, .iaload, 1), (315, .invokevirtual 38, 3), (318, .pop, 1), (319, .aload_n 2, 1), (320, .aload_n 0, 1), (321, .iload 4, 2), (323, .iconst 1, 1), (324, .iadd, 1), (325, .iaload, 1), (326, .invokevirtual 41, 3), (329, .pop, 1), (330, .goto 1506, 3)] : List (Nat × Instr × Nat)).all (fun r => decide (decode cL_law r.1 = .ok r.2)) = true := by decide +kernel
theorem dL_law_261 : decode cL_law 261 = .ok (.iconst 1, 1) := db_of db_2 0 rfl
theorem dL_law_262 : decode cL_law 262 = .ok (.iadd, 1) := db_of db_2 1 rfl
theorem dL_law_263 : decode cL_law 263 = .ok (.iaload, 1) := db_of db_2 2 rfl
theorem dL_law_264 : decode cL_law 264 = .ok (.invokevirtual 32, 3) := db_of db_2 3 rfl
theorem dL_law_267 : decode cL_law 267 = .ok (.pop, 1) := db_of db_2 4 rfl
theorem dL_law_268 : decode cL_law 268 = .ok (.goto 1568, 3) := db_of db_2 5 rfl
theorem dL_law_271 : decode cL_law 271 = .ok (.aload_n 1, 1) := db_of db_2 6 rfl
theorem dL_law_272 : decode cL_law 272 = .ok (.aload_n 0, 1) := db_of db_2 7 rfl
theorem dL_law_273 : decode cL_law 273 = .ok (.iload 4, 2) := db_of db_2 8 rfl
theorem dL_law_275 : decode cL_law 275 = .ok (.iconst 1, 1) := db_of db_2 9 rfl
theorem dL_law_276 : decode cL_law 276 = .ok (.iadd, 1) := db_of db_2 10 rfl
theorem dL_law_277 : decode cL_law 277 = .ok (.iaload, 1) := db_of db_2 11 rfl
theorem dL_law_278 : decode cL_law 278 = .ok (.aload_n 0, 1) := db_of db_2 12 rfl
theorem dL_law_279 : decode cL_law 279 = .ok (.iload 4, 2) := db_of db_2 13 rfl
theorem dL_law_281 : decode cL_law 281 = .ok (.iconst 2, 1) := db_of db_2 14 rfl
theorem dL_law_282 : decode cL_law 282 = .ok (.iadd, 1) := db_of db_2 15 rfl
theorem dL_law_283 : decode cL_law 283 = .ok (.iaload, 1) := db_of db_2 16 rfl
theorem dL_law_284 : decode cL_law 284 = .ok (.invokevirtual 33, 3) := db_of db_2 17 rfl
theorem dL_law_287 : decode cL_law 287 = .ok (.pop, 1) := db_of db_2 18 rfl
theorem dL_law_288 : decode cL_law 288 = .ok (.aload_n 2, 1) := db_of db_2 19 rfl
theorem dL_law_289 : decode cL_law 289 = .ok (.aload_n 0, 1) := db_of db_2 20 rfl
theorem dL_law_290 : decode cL_law 290 = .ok (.iload 4, 2) := db_of db_2 21 rfl
theorem dL_law_292 : decode cL_law 292 = .ok (.iconst 1, 1) := db_of db_2 22 rfl
theorem dL_law_293 : decode cL_law 293 = .ok (.iadd, 1) := db_of db_2 23 rfl
theorem dL_law_294 : decode cL_law 294 = .ok (.iaload, 1) := db_of db_2 24 rfl
theorem dL_law_295 : decode cL_law 295 = .ok (.aload_n 0, 1) := db_of db_2 25 rfl
theorem dL_law_296 : decode cL_law 296 = .ok (.iload 4, 2) := db_of db_2 26 rfl
theorem dL_law_298 : decode cL_law 298 = .ok (.iconst 2, 1) := db_of db_2 27 rfl
theorem dL_law_299 : decode cL_law 299 = .ok (.iadd, 1) := db_of db_2 28 rfl
theorem dL_law_300 : decode cL_law 300 = .ok (.iaload, 1) := db_of db_2 29 rfl
theorem dL_law_301 : decode cL_law 301 = .ok (.invokevirtual 37, 3) := db_of db_2 30 rfl
theorem dL_law_304 : decode cL_law 304 = .ok (.pop, 1) := db_of db_2 31 rfl
theorem dL_law_305 : decode cL_law 305 = .ok (.goto 1531, 3) := db_of db_2 32 rfl
theorem dL_law_308 : decode cL_law 308 = .ok (.aload_n 1, 1) := db_of db_2 33 rfl
theorem dL_law_309 : decode cL_law 309 = .ok (.aload_n 0, 1) := db_of db_2 34 rfl
theorem dL_law_310 : decode cL_law 310 = .ok (.iload 4, 2) := db_of db_2 35 rfl
theorem dL_law_312 : decode cL_law 312 = .ok (.iconst 1, 1) := db_of db_2 36 rfl
theorem dL_law_313 : decode cL_law 313 = .ok (.iadd, 1) := db_of db_2 37 rfl
theorem dL_law_314 : decode cL_law 314 = .ok (.iaload, 1) := db_of db_2 38 rfl
theorem dL_law_315 : decode cL_law 315 = .ok (.invokevirtual 38, 3) := db_of db_2 39 rfl
theorem dL_law_318 : decode cL_law 318 = .ok (.pop, 1) := db_of db_2 40 rfl
theorem dL_law_319 : decode cL_law 319 = .ok (.aload_n 2, 1) := db_of db_2 41 rfl
theorem dL_law_320 : decode cL_law 320 = .ok (.aload_n 0, 1) := db_of db_2 42 rfl
theorem dL_law_321 : decode cL_law 321 = .ok (.iload 4, 2) := db_of db_2 43 rfl
theorem dL_law_323 : decode cL_law 323 = .ok (.iconst 1, 1) := db_of db_2 44 rfl
theorem dL_law_324 : decode cL_law 324 = .ok (.iadd, 1) := db_of db_2 45 rfl
theorem dL_law_325 : decode cL_law 325 = .ok (.iaload, 1) := db_of db_2 46 rfl
theorem dL_law_326 : decode cL_law 326 = .ok (.invokevirtual 41, 3) := db_of db_2 47 rfl
theorem dL_law_329 : decode cL_law 329 = .ok (.pop, 1) := db_of db_2 48 rfl
theorem dL_law_330 : decode cL_law 330 = .ok (.goto 1506, 3) := db_of db_2 49 rfl
set_option maxRecDepth 100000 in
theorem db_3 : ([(333, .aload_n 1, 1), (334, .aload_n 0, 1), (335, .iload 4, 2), (337, .iconst 1, 1), (338, .iadd, 1), (339, .iaload, 1), (340, .aload_n 0, 1), (341, .iload 4, 2), (343, .iconst 2, 1), (344, .iadd, 1), (345, .iaload, 1), (346, .invokevirtual 42, 3), (349, .pop, 1), (350, .aload_n 2, 1), (351, .aload_n 0, 1), (352, .iload 4, 2), (354, .iconst 1, 1), (355, .iadd, 1), (356, .iaload, 1), (357, .aload_n 0, 1), (358, .iload 4, 2), (360, .iconst 2, 1), (361, .iadd, 1), (362, .iaload, 1), (363, .invokevirtual 45, 3), (366, .pop, 1), (367, .goto 1469, 3), (370, .aload_n 1, 1), (371, .aload_n 0, 1), (372, .iload 4, 2), (374, .iconst 1, 1), (375, .iadd, 1), (376, .iaload, 1), (377, .aload_n 0, 1), (378, .iload 4, 2), (380, .iconst 2, 1), (381, .iadd, 1), (382, .iaload, 1), (383, .invokevirtual 46, 3), (386, .pop, 1), (387, .aload_n 2, 1), (388, .aload_n 0, 1), (389, .iload 4, 2), (391, .iconst 1, 1), (392, .iadd, 1), (393, .iaload, 1), (394, .aload_n 0, 1), (395, .iload 4, 2), (397, .iconst 2, 1), (398, .iadd, 1)] : List (Nat × Instr × Nat)).all (fun r => decide (decode cL_law r.1 = .ok r.2)) = true := by decide +kernel
theorem dL_law_333 : decode cL_law 333 = .ok (.aload_n 1, 1) := db_of db_3 0 rfl
theorem dL_law_334 : decode cL_law 334 = .ok (.aload_n 0, 1) := db_of db_3 1 rfl
theorem dL_law_335 : decode cL_law 335 = .ok (.iload 4, 2) := db_of db_3 2 rfl
theorem dL_law_337 : decode cL_law 337 = .ok (.iconst 1, 1) := db_of db_3 3 rfl
theorem dL_law_338 : decode cL_law 338 = .ok (.iadd, 1) := db_of db_3 4 rfl
theorem dL_law_339 : decode cL_law 339 = .ok (.iaload, 1) := db_of db_3 5 rfl
theorem dL_law_340 : decode cL_law 340 = .ok (.aload_n 0, 1) := db_of db_3 6 rfl
theorem dL_law_341 : decode cL_law 341 = .ok (.iload 4, 2) := db_of db_3 7 rfl
theorem dL_law_343 : decode cL_law 343 = .ok (.iconst 2, 1) := db_of db_3 8 rfl
theorem dL_law_344 : decode cL_law 344 = .ok (.iadd, 1) := db_of db_3 9 rfl
theorem dL_law_345 : decode cL_law 345 = .ok (.iaload, 1) := db_of db_3 10 rfl
theorem dL_law_346 : decode cL_law 346 = .ok (.invokevirtual 42, 3) := db_of db_3 11 rfl
theorem dL_law_349 : decode cL_law 349 = .ok (.pop, 1) := db_of db_3 12 rfl
theorem dL_law_350 : decode cL_law 350 = .ok (.aload_n 2, 1) := db_of db_3 13 rfl
theorem dL_law_351 : decode cL_law 351 = .ok (.aload_n 0, 1) := db_of db_3 14 rfl
theorem dL_law_352 : decode cL_law 352 = .ok (.iload 4, 2) := db_of db_3 15 rfl
theorem dL_law_354 : decode cL_law 354 = .ok (.iconst 1, 1) := db_of db_3 16 rfl
theorem dL_law_355 : decode cL_law 355 = .ok (.iadd, 1) := db_of db_3 17 rfl
theorem dL_law_356 : decode cL_law 356 = .ok (.iaload, 1) := db_of db_3 18 rfl
theorem dL_law_357 : decode cL_law 357 = .ok (.aload_n 0, 1) := db_of db_3 19 rfl
theorem dL_law_358 : decode cL_law 358 = .ok (.iload 4, 2) := db_of db_3 20 rfl
theorem dL_law_360 : decode cL_law 360 = .ok (.iconst 2, 1) := db_of db_3 21 rfl
theorem dL_law_361 : decode cL_law 361 = .ok (.iadd, 1) := db_of db_3 22 rfl
theorem dL_law_362 : decode cL_law 362 = .ok (.iaload, 1) := db_of db_3 23 rfl
theorem dL_law_363 : decode cL_law 363 = .ok (.invokevirtual 45, 3) := db_of db_3 24 rfl
theorem dL_law_366 : decode cL_law 366 = .ok (.pop, 1) := db_of db_3 25 rfl
theorem dL_law_367 : decode cL_law 367 = .ok (.goto 1469, 3) := db_of db_3 26 rfl
theorem dL_law_370 : decode cL_law 370 = .ok (.aload_n 1, 1) := db_of db_3 27 rfl
theorem dL_law_371 : decode cL_law 371 = .ok (.aload_n 0, 1) := db_of db_3 28 rfl
theorem dL_law_372 : decode cL_law 372 = .ok (.iload 4, 2) := db_of db_3 29 rfl
theorem dL_law_374 : decode cL_law 374 = .ok (.iconst 1, 1) := db_of db_3 30 rfl
theorem dL_law_375 : decode cL_law 375 = .ok (.iadd, 1) := db_of db_3 31 rfl
theorem dL_law_376 : decode cL_law 376 = .ok (.iaload, 1) := db_of db_3 32 rfl
theorem dL_law_377 : decode cL_law 377 = .ok (.aload_n 0, 1) := db_of db_3 33 rfl
theorem dL_law_378 : decode cL_law 378 = .ok (.iload 4, 2) := db_of db_3 34 rfl
theorem dL_law_380 : decode cL_law 380 = .ok (.iconst 2, 1) := db_of db_3 35 rfl
theorem dL_law_381 : decode cL_law 381 = .ok (.iadd, 1) := db_of db_3 36 rfl
theorem dL_law_382 : decode cL_law 382 = .ok (.iaload, 1) := db_of db_3 37 rfl
theorem dL_law_383 : decode cL_law 383 = .ok (.invokevirtual 46, 3) := db_of db_3 38 rfl
theorem dL_law_386 : decode cL_law 386 = .ok (.pop, 1) := db_of db_3 39 rfl
theorem dL_law_387 : decode cL_law 387 = .ok (.aload_n 2, 1) := db_of db_3 40 rfl
theorem dL_law_388 : decode cL_law 388 = .ok (.aload_n 0, 1) := db_of db_3 41 rfl
theorem dL_law_389 : decode cL_law 389 = .ok (.iload 4, 2) := db_of db_3 42 rfl
theorem dL_law_391 : decode cL_law 391 = .ok (.iconst 1, 1) := db_of db_3 43 rfl
theorem dL_law_392 : decode cL_law 392 = .ok (.iadd, 1) := db_of db_3 44 rfl
theorem dL_law_393 : decode cL_law 393 = .ok (.iaload, 1) := db_of db_3 45 rfl
theorem dL_law_394 : decode cL_law 394 = .ok (.aload_n 0, 1) := db_of db_3 46 rfl
theorem dL_law_395 : decode cL_law 395 = .ok (.iload 4, 2) := db_of db_3 47 rfl
theorem dL_law_397 : decode cL_law 397 = .ok (.iconst 2, 1) := db_of db_3 48 rfl
theorem dL_law_398 : decode cL_law 398 = .ok (.iadd, 1) := db_of db_3 49 rfl
set_option maxRecDepth 100000 in
theorem db_4 : ([(399, .iaload, 1), (400, .invokevirtual 49, 3), (403, .pop, 1), (404, .goto 1432, 3), (407, .aload_n 1, 1), (408, .aload_n 0, 1), (409, .iload 4, 2), (411, .iconst 1, 1), (412, .iadd, 1), (413, .iaload, 1), (414, .invokevirtual 50, 3), (417, .pop, 1), (418, .aload_n 2, 1), (419, .aload_n 0, 1), (420, .iload 4, 2), (422, .iconst 1, 1), (423, .iadd, 1), (424, .iaload, 1), (425, .invokevirtual 53, 3), (428, .pop, 1), (429, .goto 1407, 3), (432, .aload_n 1, 1), (433, .aload_n 0, 1), (434, .iload 4, 2), (436, .iconst 1, 1), (437, .iadd, 1), (438, .iaload, 1), (439, .invokevirtual 54, 3), (442, .pop, 1), (443, .aload_n 2, 1), (444, .aload_n 0, 1), (445, .iload 4, 2), (447, .iconst 1, 1), (448, .iadd, 1), (449, .iaload, 1), (450, .invokevirtual 58, 3), (453, .pop, 1), (454, .goto 1382, 3), (457, .aload_n 1, 1), (458, .aload_n 0, 1), (459, .iload 4, 2), (461, .iconst 1, 1), (462, .iadd, 1), (463, .iaload, 1), (464, .invokevirtual 59, 3), (467, .pop, 1), (468, .aload_n 2, 1), (469, .aload_n 0, 1), (470, .iload 4, 2), (472, .iconst 1, 1)] : List (Nat × Instr × Nat)).all (fun r => decide (decode cL_law r.1 = .ok r.2)) = true := by decide +kernel
theorem dL_law_399 : decode cL_law 399 = .ok (.iaload, 1) := db_of db_4 0 rfl
theorem dL_law_400 : decode cL_law 400 = .ok (.invokevirtual 49, 3) := db_of db_4 1 rfl
theorem dL_law_403 : decode cL_law 403 = .ok (.pop, 1) := db_of db_4 2 rfl
theorem dL_law_404 : decode cL_law 404 = .ok (.goto 1432, 3) := db_of db_4 3 rfl
theorem dL_law_407 : decode cL_law 407 = .ok (.aload_n 1, 1) := db_of db_4 4 rfl
theorem dL_law_408 : decode cL_law 408 = .ok (.aload_n 0, 1) := db_of db_4 5 rfl
theorem dL_law_409 : decode cL_law 409 = .ok (.iload 4, 2) := db_of db_4 6 rfl
theorem dL_law_411 : decode cL_law 411 = .ok (.iconst 1, 1) := db_of db_4 7 rfl
theorem dL_law_412 : decode cL_law 412 = .ok (.iadd, 1) := db_of db_4 8 rfl
theorem dL_law_413 : decode cL_law 413 = .ok (.iaload, 1) := db_of db_4 9 rfl
theorem dL_law_414 : decode cL_law 414 = .ok (.invokevirtual 50, 3) := db_of db_4 10 rfl
theorem dL_law_417 : decode cL_law 417 = .ok (.pop, 1) := db_of db_4 11 rfl
theorem dL_law_418 : decode cL_law 418 = .ok (.aload_n 2, 1) := db_of db_4 12 rfl
theorem dL_law_419 : decode cL_law 419 = .ok (.aload_n 0, 1) := db_of db_4 13 rfl
theorem dL_law_420 : decode cL_law 420 = .ok (.iload 4, 2) := db_of db_4 14 rfl
theorem dL_law_422 : decode cL_law 422 = .ok (.iconst 1, 1) := db_of db_4 15 rfl
theorem dL_law_423 : decode cL_law 423 = .ok (.iadd, 1) := db_of db_4 16 rfl
theorem dL_law_424 : decode cL_law 424 = .ok (.iaload, 1) := db_of db_4 17 rfl
theorem dL_law_425 : decode cL_law 425 = .ok (.invokevirtual 53, 3) := db_of db_4 18 rfl
theorem dL_law_428 : decode cL_law 428 = .ok (.pop, 1) := db_of db_4 19 rfl
theorem dL_law_429 : decode cL_law 429 = .ok (.goto 1407, 3) := db_of db_4 20 rfl
theorem dL_law_432 : decode cL_law 432 = .ok (.aload_n 1, 1) := db_of db_4 21 rfl
theorem dL_law_433 : decode cL_law 433 = .ok (.aload_n 0, 1) := db_of db_4 22 rfl
theorem dL_law_434 : decode cL_law 434 = .ok (.iload 4, 2) := db_of db_4 23 rfl
theorem dL_law_436 : decode cL_law 436 = .ok (.iconst 1, 1) := db_of db_4 24 rfl
theorem dL_law_437 : decode cL_law 437 = .ok (.iadd, 1) := db_of db_4 25 rfl
theorem dL_law_438 : decode cL_law 438 = .ok (.iaload, 1) := db_of db_4 26 rfl
theorem dL_law_439 : decode cL_law 439 = .ok (.invokevirtual 54, 3) := db_of db_4 27 rfl
theorem dL_law_442 : decode cL_law 442 = .ok (.pop, 1) := db_of db_4 28 rfl
theorem dL_law_443 : decode cL_law 443 = .ok (.aload_n 2, 1) := db_of db_4 29 rfl
theorem dL_law_444 : decode cL_law 444 = .ok (.aload_n 0, 1) := db_of db_4 30 rfl
theorem dL_law_445 : decode cL_law 445 = .ok (.iload 4, 2) := db_of db_4 31 rfl
theorem dL_law_447 : decode cL_law 447 = .ok (.iconst 1, 1) := db_of db_4 32 rfl
theorem dL_law_448 : decode cL_law 448 = .ok (.iadd, 1) := db_of db_4 33 rfl
theorem dL_law_449 : decode cL_law 449 = .ok (.iaload, 1) := db_of db_4 34 rfl
theorem dL_law_450 : decode cL_law 450 = .ok (.invokevirtual 58, 3) := db_of db_4 35 rfl
theorem dL_law_453 : decode cL_law 453 = .ok (.pop, 1) := db_of db_4 36 rfl
theorem dL_law_454 : decode cL_law 454 = .ok (.goto 1382, 3) := db_of db_4 37 rfl
theorem dL_law_457 : decode cL_law 457 = .ok (.aload_n 1, 1) := db_of db_4 38 rfl
theorem dL_law_458 : decode cL_law 458 = .ok (.aload_n 0, 1) := db_of db_4 39 rfl
theorem dL_law_459 : decode cL_law 459 = .ok (.iload 4, 2) := db_of db_4 40 rfl
theorem dL_law_461 : decode cL_law 461 = .ok (.iconst 1, 1) := db_of db_4 41 rfl
theorem dL_law_462 : decode cL_law 462 = .ok (.iadd, 1) := db_of db_4 42 rfl
theorem dL_law_463 : decode cL_law 463 = .ok (.iaload, 1) := db_of db_4 43 rfl
theorem dL_law_464 : decode cL_law 464 = .ok (.invokevirtual 59, 3) := db_of db_4 44 rfl
theorem dL_law_467 : decode cL_law 467 = .ok (.pop, 1) := db_of db_4 45 rfl
theorem dL_law_468 : decode cL_law 468 = .ok (.aload_n 2, 1) := db_of db_4 46 rfl
theorem dL_law_469 : decode cL_law 469 = .ok (.aload_n 0, 1) := db_of db_4 47 rfl
theorem dL_law_470 : decode cL_law 470 = .ok (.iload 4, 2) := db_of db_4 48 rfl
theorem dL_law_472 : decode cL_law 472 = .ok (.iconst 1, 1) := db_of db_4 49 rfl
set_option maxRecDepth 100000 in
theorem db_5 : ([(473, .iadd, 1), (474, .iaload, 1), (475, .invokevirtual 62, 3), (478, .pop, 1), (479, .goto 1357, 3), (482, .aload_n 1, 1), (483, .aload_n 0, 1), (484, .iload 4, 2), (486, .iconst 1, 1), (487, .iadd, 1), (488, .iaload, 1), (489, .aload_n 0, 1), (490, .iload 4, 2), (492, .iconst 2, 1), (493, .iadd, 1), (494, .iaload, 1), (495, .invokevirtual 63, 3), (498, .pop, 1), (499, .aload_n 2, 1), (500, .aload_n 0, 1), (501, .iload 4, 2), (503, .iconst 1, 1), (504, .iadd, 1), (505, .iaload, 1), (506, .aload_n 0, 1), (507, .iload 4, 2), (509, .iconst 2, 1), (510, .iadd, 1), (511, .iaload, 1), (512, .invokevirtual 66, 3), (515, .pop, 1), (516, .goto 1320, 3), (519, .aload_n 1, 1), (520, .aload_n 0, 1), (521, .iload 4, 2), (523, .iconst 1, 1), (524, .iadd, 1), (525, .iaload, 1), (526, .aload_n 0, 1), (527, .iload 4, 2), (529, .iconst 2, 1), (530, .iadd, 1), (531, .iaload, 1), (532, .invokevirtual 67, 3), (535, .pop, 1), (536, .aload_n 2, 1), (537, .aload_n 0, 1), (538, .iload 4, 2), (540, .iconst 1, 1), (541, .iadd, 1)] : List (Nat × Instr × Nat)).all (fun r => decide (decode cL_law r.1 = .ok r.2)) = true := by decide +kernel
theorem dL_law_473 : decode cL_law 473 = .ok (.iadd, 1) := db_of db_5 0 rfl
theorem dL_law_474 : decode cL_law 474 = .ok (.iaload, 1) := db_of db_5 1 rfl
theorem dL_law_475 : decode cL_law 475 = .ok (.invokevirtual 62, 3) := db_of db_5 2 rfl
theorem dL_law_478 : decode cL_law 478 = .ok (.pop, 1) := db_of db_5 3 rfl
theorem dL_law_479 : decode cL_law 479 = .ok (.goto 1357, 3) := db_of db_5 4 rfl
theorem dL_law_482 : decode cL_law 482 = .ok (.aload_n 1, 1) := db_of db_5 5 rfl
theorem dL_law_483 : decode cL_law 483 = .ok (.aload_n 0, 1) := db_of db_5 6 rfl
theorem dL_law_484 : decode cL_law 484 = .ok (.iload 4, 2) := db_of db_5 7 rfl
theorem dL_law_486 : decode cL_law 486 = .ok (.iconst 1, 1) := db_of db_5 8 rfl
theorem dL_law_487 : decode cL_law 487 = .ok (.iadd, 1) := db_of db_5 9 rfl
theorem dL_law_488 : decode cL_law 488 = .ok (.iaload, 1) := db_of db_5 10 rfl
theorem dL_law_489 : decode cL_law 489 = .ok (.aload_n 0, 1) := db_of db_5 11 rfl
theorem dL_law_490 : decode cL_law 490 = .ok (.iload 4, 2) := db_of db_5 12 rfl
theorem dL_law_492 : decode cL_law 492 = .ok (.iconst 2, 1) := db_of db_5 13 rfl
theorem dL_law_493 : decode cL_law 493 = .ok (.iadd, 1) := db_of db_5 14 rfl
theorem dL_law_494 : decode cL_law 494 = .ok (.iaload, 1) := db_of db_5 15 rfl
theorem dL_law_495 : decode cL_law 495 = .ok (.invokevirtual 63, 3) := db_of db_5 16 rfl
theorem dL_law_498 : decode cL_law 498 = .ok (.pop, 1) := db_of db_5 17 rfl
theorem dL_law_499 : decode cL_law 499 = .ok (.aload_n 2, 1) := db_of db_5 18 rfl
theorem dL_law_500 : decode cL_law 500 = .ok (.aload_n 0, 1) := db_of db_5 19 rfl
theorem dL_law_501 : decode cL_law 501 = .ok (.iload 4, 2) := db_of db_5 20 rfl
theorem dL_law_503 : decode cL_law 503 = .ok (.iconst 1, 1) := db_of db_5 21 rfl
theorem dL_law_504 : decode cL_law 504 = .ok (.iadd, 1) := db_of db_5 22 rfl
theorem dL_law_505 : decode cL_law 505 = .ok (.iaload, 1) := db_of db_5 23 rfl
theorem dL_law_506 : decode cL_law 506 = .ok (.aload_n 0, 1) := db_of db_5 24 rfl
theorem dL_law_507 : decode cL_law 507 = .ok (.iload 4, 2) := db_of db_5 25 rfl
theorem dL_law_509 : decode cL_law 509 = .ok (.iconst 2, 1) := db_of db_5 26 rfl
theorem dL_law_510 : decode cL_law 510 = .ok (.iadd, 1) := db_of db_5 27 rfl
theorem dL_law_511 : decode cL_law 511 = .ok (.iaload, 1) := db_of db_5 28 rfl
theorem dL_law_512 : decode cL_law 512 = .ok (.invokevirtual 66, 3) := db_of db_5 29 rfl
theorem dL_law_515 : decode cL_law 515 = .ok (.pop, 1) := db_of db_5 30 rfl
theorem dL_law_516 : decode cL_law 516 = .ok (.goto 1320, 3) := db_of db_5 31 rfl
theorem dL_law_519 : decode cL_law 519 = .ok (.aload_n 1, 1) := db_of db_5 32 rfl
theorem dL_law_520 : decode cL_law 520 = .ok (.aload_n 0, 1) := db_of db_5 33 rfl
theorem dL_law_521 : decode cL_law 521 = .ok (.iload 4, 2) := db_of db_5 34 rfl
theorem dL_law_523 : decode cL_law 523 = .ok (.iconst 1, 1) := db_of db_5 35 rfl
theorem dL_law_524 : decode cL_law 524 = .ok (.iadd, 1) := db_of db_5 36 rfl
theorem dL_law_525 : decode cL_law 525 = .ok (.iaload, 1) := db_of db_5 37 rfl
theorem dL_law_526 : decode cL_law 526 = .ok (.aload_n 0, 1) := db_of db_5 38 rfl
theorem dL_law_527 : decode cL_law 527 = .ok (.iload 4, 2) := db_of db_5 39 rfl
theorem dL_law_529 : decode cL_law 529 = .ok (.iconst 2, 1) := db_of db_5 40 rfl
theorem dL_law_530 : decode cL_law 530 = .ok (.iadd, 1) := db_of db_5 41 rfl
theorem dL_law_531 : decode cL_law 531 = .ok (.iaload, 1) := db_of db_5 42 rfl
theorem dL_law_532 : decode cL_law 532 = .ok (.invokevirtual 67, 3) := db_of db_5 43 rfl
theorem dL_law_535 : decode cL_law 535 = .ok (.pop, 1) := db_of db_5 44 rfl
theorem dL_law_536 : decode cL_law 536 = .ok (.aload_n 2, 1) := db_of db_5 45 rfl
theorem dL_law_537 : decode cL_law 537 = .ok (.aload_n 0, 1) := db_of db_5 46 rfl
theorem dL_law_538 : decode cL_law 538 = .ok (.iload 4, 2) := db_of db_5 47 rfl
theorem dL_law_540 : decode cL_law 540 = .ok (.iconst 1, 1) := db_of db_5 48 rfl
theorem dL_law_541 : decode cL_law 541 = .ok (.iadd, 1) := db_of db_5 49 rfl
set_option maxRecDepth 100000 in
theorem db_6 : ([(542, .iaload, 1), (543, .aload_n 0, 1), (544, .iload 4, 2), (546, .iconst 2, 1), (547, .iadd, 1), (548, .iaload, 1), (549, .invokevirtual 70, 3), (552, .pop, 1), (553, .goto 1283, 3), (556, .aload_n 1, 1), (557, .invokevirtual 71, 3), (560, .pop, 1), (561, .aload_n 2, 1), (562, .invokevirtual 74, 3), (565, .pop, 1), (566, .goto 1270, 3), (569, .aload_n 1, 1), (570, .invokevirtual 75, 3), (573, .pop, 1), (574, .aload_n 2, 1), (575, .invokevirtual 78, 3), (578, .pop, 1), (579, .goto 1257, 3), (582, .aload_n 1, 1), (583, .aload_n 0, 1), (584, .iload 4, 2), (586, .iconst 1, 1), (587, .iadd, 1), (588, .iaload, 1), (589, .aload_n 0, 1), (590, .iload 4, 2), (592, .iconst 2, 1), (593, .iadd, 1), (594, .iaload, 1), (595, .aload_n 0, 1), (596, .iload 4, 2), (598, .iconst 3, 1), (599, .iadd, 1), (600, .iaload, 1), (601, .invokevirtual 79, 3), (604, .aload_n 2, 1), (605, .aload_n 0, 1), (606, .iload 4, 2), (608, .iconst 1, 1), (609, .iadd, 1), (610, .iaload, 1), (611, .aload_n 0, 1), (612, .iload 4, 2), (614, .iconst 2, 1), (615, .iadd, 1)] : List (Nat × Instr × Nat)).all (fun r => decide (decode cL_law r.1 = .ok r.2)) = true := by decide +kernel
theorem dL_law_542 : decode cL_law 542 = .ok (.iaload, 1) := db_of db_6 0 rfl
theorem dL_law_543 : decode cL_law 543 = .ok (.aload_n 0, 1) := db_of db_6 1 rfl
theorem dL_law_544 : decode cL_law 544 = .ok (.iload 4, 2) := db_of db_6 2 rfl
theorem dL_law_546 : decode cL_law 546 = .ok (.iconst 2, 1) := db_of db_6 3 rfl
theorem dL_law_547 : decode cL_law 547 = .ok (.iadd, 1) := db_of db_6 4 rfl
theorem dL_law_548 : decode cL_law 548 = .ok (.iaload, 1) := db_of db_6 5 rfl
theorem dL_law_549 : decode cL_law 549 = .ok (.invokevirtual 70, 3) := db_of db_6 6 rfl
theorem dL_law_552 : decode cL_law 552 = .ok (.pop, 1) := db_of db_6 7 rfl
theorem dL_law_553 : decode cL_law 553 = .ok (.goto 1283, 3) := db_of db_6 8 rfl
theorem dL_law_556 : decode cL_law 556 = .ok (.aload_n 1, 1) := db_of db_6 9 rfl
theorem dL_law_557 : decode cL_law 557 = .ok (.invokevirtual 71, 3) := db_of db_6 10 rfl
theorem dL_law_560 : decode cL_law 560 = .ok (.pop, 1) := db_of db_6 11 rfl
theorem dL_law_561 : decode cL_law 561 = .ok (.aload_n 2, 1) := db_of db_6 12 rfl
theorem dL_law_562 : decode cL_law 562 = .ok (.invokevirtual 74, 3) := db_of db_6 13 rfl
theorem dL_law_565 : decode cL_law 565 = .ok (.pop, 1) := db_of db_6 14 rfl
theorem dL_law_566 : decode cL_law 566 = .ok (.goto 1270, 3) := db_of db_6 15 rfl
theorem dL_law_569 : decode cL_law 569 = .ok (.aload_n 1, 1) := db_of db_6 16 rfl
theorem dL_law_570 : decode cL_law 570 = .ok (.invokevirtual 75, 3) := db_of db_6 17 rfl
theorem dL_law_573 : decode cL_law 573 = .ok (.pop, 1) := db_of db_6 18 rfl
theorem dL_law_574 : decode cL_law 574 = .ok (.aload_n 2, 1) := db_of db_6 19 rfl
theorem dL_law_575 : decode cL_law 575 = .ok (.invokevirtual 78, 3) := db_of db_6 20 rfl
theorem dL_law_578 : decode cL_law 578 = .ok (.pop, 1) := db_of db_6 21 rfl
theorem dL_law_579 : decode cL_law 579 = .ok (.goto 1257, 3) := db_of db_6 22 rfl
theorem dL_law_582 : decode cL_law 582 = .ok (.aload_n 1, 1) := db_of db_6 23 rfl
theorem dL_law_583 : decode cL_law 583 = .ok (.aload_n 0, 1) := db_of db_6 24 rfl
theorem dL_law_584 : decode cL_law 584 = .ok (.iload 4, 2) := db_of db_6 25 rfl
theorem dL_law_586 : decode cL_law 586 = .ok (.iconst 1, 1) := db_of db_6 26 rfl
theorem dL_law_587 : decode cL_law 587 = .ok (.iadd, 1) := db_of db_6 27 rfl
theorem dL_law_588 : decode cL_law 588 = .ok (.iaload, 1) := db_of db_6 28 rfl
theorem dL_law_589 : decode cL_law 589 = .ok (.aload_n 0, 1) := db_of db_6 29 rfl
theorem dL_law_590 : decode cL_law 590 = .ok (.iload 4, 2) := db_of db_6 30 rfl
theorem dL_law_592 : decode cL_law 592 = .ok (.iconst 2, 1) := db_of db_6 31 rfl
theorem dL_law_593 : decode cL_law 593 = .ok (.iadd, 1) := db_of db_6 32 rfl
theorem dL_law_594 : decode cL_law 594 = .ok (.iaload, 1) := db_of db_6 33 rfl
theorem dL_law_595 : decode cL_law 595 = .ok (.aload_n 0, 1) := db_of db_6 34 rfl
theorem dL_law_596 : decode cL_law 596 = .ok (.iload 4, 2) := db_of db_6 35 rfl
theorem dL_law_598 : decode cL_law 598 = .ok (.iconst 3, 1) := db_of db_6 36 rfl
theorem dL_law_599 : decode cL_law 599 = .ok (.iadd, 1) := db_of db_6 37 rfl
theorem dL_law_600 : decode cL_law 600 = .ok (.iaload, 1) := db_of db_6 38 rfl
theorem dL_law_601 : decode cL_law 601 = .ok (.invokevirtual 79, 3) := db_of db_6 39 rfl
theorem dL_law_604 : decode cL_law 604 = .ok (.aload_n 2, 1) := db_of db_6 40 rfl
theorem dL_law_605 : decode cL_law 605 = .ok (.aload_n 0, 1) := db_of db_6 41 rfl
theorem dL_law_606 : decode cL_law 606 = .ok (.iload 4, 2) := db_of db_6 42 rfl
theorem dL_law_608 : decode cL_law 608 = .ok (.iconst 1, 1) := db_of db_6 43 rfl
theorem dL_law_609 : decode cL_law 609 = .ok (.iadd, 1) := db_of db_6 44 rfl
theorem dL_law_610 : decode cL_law 610 = .ok (.iaload, 1) := db_of db_6 45 rfl
theorem dL_law_611 : decode cL_law 611 = .ok (.aload_n 0, 1) := db_of db_6 46 rfl
theorem dL_law_612 : decode cL_law 612 = .ok (.iload 4, 2) := db_of db_6 47 rfl
theorem dL_law_614 : decode cL_law 614 = .ok (.iconst 2, 1) := db_of db_6 48 rfl
theorem dL_law_615 : decode cL_law 615 = .ok (.iadd, 1) := db_of db_6 49 rfl
set_option maxRecDepth 100000 in
theorem db_7 : ([(616, .iaload, 1), (617, .aload_n 0, 1), (618, .iload 4, 2), (620, .iconst 3, 1), (621, .iadd, 1), (622, .iaload, 1), (623, .invokevirtual 83, 3), (626, .if_icmp .eq 1210, 3), (629, .iconst 0, 1), (630, .ireturn, 1), (631, .aload_n 1, 1), (632, .aload_n 0, 1), (633, .iload 4, 2), (635, .iconst 1, 1), (636, .iadd, 1), (637, .iaload, 1), (638, .aload_n 0, 1), (639, .iload 4, 2), (641, .iconst 2, 1), (642, .iadd, 1), (643, .iaload, 1), (644, .invokevirtual 84, 3), (647, .pop, 1), (648, .aload_n 2, 1), (649, .aload_n 0, 1), (650, .iload 4, 2), (652, .iconst 1, 1), (653, .iadd, 1), (654, .iaload, 1), (655, .aload_n 0, 1), (656, .iload 4, 2), (658, .iconst 2, 1), (659, .iadd, 1), (660, .iaload, 1), (661, .invokevirtual 87, 3), (664, .pop, 1), (665, .goto 1171, 3), (668, .aload_n 1, 1), (669, .aload_n 0, 1), (670, .iload 4, 2), (672, .iconst 1, 1), (673, .iadd, 1), (674, .iaload, 1), (675, .aload_n 0, 1), (676, .iload 4, 2), (678, .iconst 2, 1), (679, .iadd, 1), (680, .iaload, 1), (681, .invokevirtual 88, 3), (684, .pop, 1)] : List (Nat × Instr × Nat)).all (fun r => decide (decode cL_law r.1 = .ok r.2)) = true := by decide +kernel
theorem dL_law_616 : decode cL_law 616 = .ok (.iaload, 1) := db_of db_7 0 rfl
theorem dL_law_617 : decode cL_law 617 = .ok (.aload_n 0, 1) := db_of db_7 1 rfl
theorem dL_law_618 : decode cL_law 618 = .ok (.iload 4, 2) := db_of db_7 2 rfl
theorem dL_law_620 : decode cL_law 620 = .ok (.iconst 3, 1) := db_of db_7 3 rfl
theorem dL_law_621 : decode cL_law 621 = .ok (.iadd, 1) := db_of db_7 4 rfl
theorem dL_law_622 : decode cL_law 622 = .ok (.iaload, 1) := db_of db_7 5 rfl
theorem dL_law_623 : decode cL_law 623 = .ok (.invokevirtual 83, 3) := db_of db_7 6 rfl
theorem dL_law_626 : decode cL_law 626 = .ok (.if_icmp .eq 1210, 3) := db_of db_7 7 rfl
theorem dL_law_629 : decode cL_law 629 = .ok (.iconst 0, 1) := db_of db_7 8 rfl
theorem dL_law_630 : decode cL_law 630 = .ok (.ireturn, 1) := db_of db_7 9 rfl
theorem dL_law_631 : decode cL_law 631 = .ok (.aload_n 1, 1) := db_of db_7 10 rfl
theorem dL_law_632 : decode cL_law 632 = .ok (.aload_n 0, 1) := db_of db_7 11 rfl
theorem dL_law_633 : decode cL_law 633 = .ok (.iload 4, 2) := db_of db_7 12 rfl
theorem dL_law_635 : decode cL_law 635 = .ok (.iconst 1, 1) := db_of db_7 13 rfl
theorem dL_law_636 : decode cL_law 636 = .ok (.iadd, 1) := db_of db_7 14 rfl
theorem dL_law_637 : decode cL_law 637 = .ok (.iaload, 1) := db_of db_7 15 rfl
theorem dL_law_638 : decode cL_law 638 = .ok (.aload_n 0, 1) := db_of db_7 16 rfl
theorem dL_law_639 : decode cL_law 639 = .ok (.iload 4, 2) := db_of db_7 17 rfl
theorem dL_law_641 : decode cL_law 641 = .ok (.iconst 2, 1) := db_of db_7 18 rfl
theorem dL_law_642 : decode cL_law 642 = .ok (.iadd, 1) := db_of db_7 19 rfl
theorem dL_law_643 : decode cL_law 643 = .ok (.iaload, 1) := db_of db_7 20 rfl
theorem dL_law_644 : decode cL_law 644 = .ok (.invokevirtual 84, 3) := db_of db_7 21 rfl
theorem dL_law_647 : decode cL_law 647 = .ok (.pop, 1) := db_of db_7 22 rfl
theorem dL_law_648 : decode cL_law 648 = .ok (.aload_n 2, 1) := db_of db_7 23 rfl
theorem dL_law_649 : decode cL_law 649 = .ok (.aload_n 0, 1) := db_of db_7 24 rfl
theorem dL_law_650 : decode cL_law 650 = .ok (.iload 4, 2) := db_of db_7 25 rfl
theorem dL_law_652 : decode cL_law 652 = .ok (.iconst 1, 1) := db_of db_7 26 rfl
theorem dL_law_653 : decode cL_law 653 = .ok (.iadd, 1) := db_of db_7 27 rfl
theorem dL_law_654 : decode cL_law 654 = .ok (.iaload, 1) := db_of db_7 28 rfl
theorem dL_law_655 : decode cL_law 655 = .ok (.aload_n 0, 1) := db_of db_7 29 rfl
theorem dL_law_656 : decode cL_law 656 = .ok (.iload 4, 2) := db_of db_7 30 rfl
theorem dL_law_658 : decode cL_law 658 = .ok (.iconst 2, 1) := db_of db_7 31 rfl
theorem dL_law_659 : decode cL_law 659 = .ok (.iadd, 1) := db_of db_7 32 rfl
theorem dL_law_660 : decode cL_law 660 = .ok (.iaload, 1) := db_of db_7 33 rfl
theorem dL_law_661 : decode cL_law 661 = .ok (.invokevirtual 87, 3) := db_of db_7 34 rfl
theorem dL_law_664 : decode cL_law 664 = .ok (.pop, 1) := db_of db_7 35 rfl
theorem dL_law_665 : decode cL_law 665 = .ok (.goto 1171, 3) := db_of db_7 36 rfl
theorem dL_law_668 : decode cL_law 668 = .ok (.aload_n 1, 1) := db_of db_7 37 rfl
theorem dL_law_669 : decode cL_law 669 = .ok (.aload_n 0, 1) := db_of db_7 38 rfl
theorem dL_law_670 : decode cL_law 670 = .ok (.iload 4, 2) := db_of db_7 39 rfl
theorem dL_law_672 : decode cL_law 672 = .ok (.iconst 1, 1) := db_of db_7 40 rfl
theorem dL_law_673 : decode cL_law 673 = .ok (.iadd, 1) := db_of db_7 41 rfl
theorem dL_law_674 : decode cL_law 674 = .ok (.iaload, 1) := db_of db_7 42 rfl
theorem dL_law_675 : decode cL_law 675 = .ok (.aload_n 0, 1) := db_of db_7 43 rfl
theorem dL_law_676 : decode cL_law 676 = .ok (.iload 4, 2) := db_of db_7 44 rfl
theorem dL_law_678 : decode cL_law 678 = .ok (.iconst 2, 1) := db_of db_7 45 rfl
theorem dL_law_679 : decode cL_law 679 = .ok (.iadd, 1) := db_of db_7 46 rfl
theorem dL_law_680 : decode cL_law 680 = .ok (.iaload, 1) := db_of db_7 47 rfl
theorem dL_law_681 : decode cL_law 681 = .ok (.invokevirtual 88, 3) := db_of db_7 48 rfl
theorem dL_law_684 : decode cL_law 684 = .ok (.pop, 1) := db_of db_7 49 rfl
set_option maxRecDepth 100000 in
theorem db_8 : ([(685, .aload_n 2, 1), (686, .aload_n 0, 1), (687, .iload 4, 2), (689, .iconst 1, 1), (690, .iadd, 1), (691, .iaload, 1), (692, .aload_n 0, 1), (693, .iload 4, 2), (695, .iconst 2, 1), (696, .iadd, 1), (697, .iaload, 1), (698, .invokevirtual 91, 3), (701, .pop, 1), (702, .goto 1134, 3), (705, .aload_n 1, 1), (706, .aload_n 0, 1), (707, .iload 4, 2), (709, .iconst 1, 1), (710, .iadd, 1), (711, .iaload, 1), (712, .aload_n 0, 1), (713, .iload 4, 2), (715, .iconst 2, 1), (716, .iadd, 1), (717, .iaload, 1), (718, .aload_n 0, 1), (719, .iload 4, 2), (721, .iconst 3, 1), (722, .iadd, 1), (723, .iaload, 1), (724, .aload_n 0, 1), (725, .iload 4, 2), (727, .iconst 4, 1), (728, .iadd, 1), (729, .iaload, 1), (730, .invokevirtual 92, 3), (733, .pop, 1), (734, .aload_n 2, 1)] : List (Nat × Instr × Nat)).all (fun r => decide (decode cL_law r.1 = .ok r.2)) = true := by decide +kernel
theorem dL_law_685 : decode cL_law 685 = .ok (.aload_n 2, 1) := db_of db_8 0 rfl
theorem dL_law_686 : decode cL_law 686 = .ok (.aload_n 0, 1) := db_of db_8 1 rfl
theorem dL_law_687 : decode cL_law 687 = .ok (.iload 4, 2) := db_of db_8 2 rfl
theorem dL_law_689 : decode cL_law 689 = .ok (.iconst 1, 1) := db_of db_8 3 rfl
theorem dL_law_690 : decode cL_law 690 = .ok (.iadd, 1) := db_of db_8 4 rfl
theorem dL_law_691 : decode cL_law 691 = .ok (.iaload, 1) := db_of db_8 5 rfl
theorem dL_law_692 : decode cL_law 692 = .ok (.aload_n 0, 1) := db_of db_8 6 rfl
theorem dL_law_693 : decode cL_law 693 = .ok (.iload 4, 2) := db_of db_8 7 rfl
theorem dL_law_695 : decode cL_law 695 = .ok (.iconst 2, 1) := db_of db_8 8 rfl
theorem dL_law_696 : decode cL_law 696 = .ok (.iadd, 1) := db_of db_8 9 rfl
theorem dL_law_697 : decode cL_law 697 = .ok (.iaload, 1) := db_of db_8 10 rfl
theorem dL_law_698 : decode cL_law 698 = .ok (.invokevirtual 91, 3) := db_of db_8 11 rfl
theorem dL_law_701 : decode cL_law 701 = .ok (.pop, 1) := db_of db_8 12 rfl
theorem dL_law_702 : decode cL_law 702 = .ok (.goto 1134, 3) := db_of db_8 13 rfl
theorem dL_law_705 : decode cL_law 705 = .ok (.aload_n 1, 1) := db_of db_8 14 rfl
theorem dL_law_706 : decode cL_law 706 = .ok (.aload_n 0, 1) := db_of db_8 15 rfl
theorem dL_law_707 : decode cL_law 707 = .ok (.iload 4, 2) := db_of db_8 16 rfl
theorem dL_law_709 : decode cL_law 709 = .ok (.iconst 1, 1) := db_of db_8 17 rfl
theorem dL_law_710 : decode cL_law 710 = .ok (.iadd, 1) := db_of db_8 18 rfl
theorem dL_law_711 : decode cL_law 711 = .ok (.iaload, 1) := db_of db_8 19 rfl
theorem dL_law_712 : decode cL_law 712 = .ok (.aload_n 0, 1) := db_of db_8 20 rfl
theorem dL_law_713 : decode cL_law 713 = .ok (.iload 4, 2) := db_of db_8 21 rfl
theorem dL_law_715 : decode cL_law 715 = .ok (.iconst 2, 1) := db_of db_8 22 rfl
theorem dL_law_716 : decode cL_law 716 = .ok (.iadd, 1) := db_of db_8 23 rfl
theorem dL_law_717 : decode cL_law 717 = .ok (.iaload, 1) := db_of db_8 24 rfl
theorem dL_law_718 : decode cL_law 718 = .ok (.aload_n 0, 1) := db_of db_8 25 rfl
theorem dL_law_719 : decode cL_law 719 = .ok (.iload 4, 2) := db_of db_8 26 rfl
theorem dL_law_721 : decode cL_law 721 = .ok (.iconst 3, 1) := db_of db_8 27 rfl
theorem dL_law_722 : decode cL_law 722 = .ok (.iadd, 1) := db_of db_8 28 rfl
theorem dL_law_723 : decode cL_law 723 = .ok (.iaload, 1) := db_of db_8 29 rfl
theorem dL_law_724 : decode cL_law 724 = .ok (.aload_n 0, 1) := db_of db_8 30 rfl
theorem dL_law_725 : decode cL_law 725 = .ok (.iload 4, 2) := db_of db_8 31 rfl
theorem dL_law_727 : decode cL_law 727 = .ok (.iconst 4, 1) := db_of db_8 32 rfl
theorem dL_law_728 : decode cL_law 728 = .ok (.iadd, 1) := db_of db_8 33 rfl
theorem dL_law_729 : decode cL_law 729 = .ok (.iaload, 1) := db_of db_8 34 rfl
theorem dL_law_730 : decode cL_law 730 = .ok (.invokevirtual 92, 3) := db_of db_8 35 rfl
theorem dL_law_733 : decode cL_law 733 = .ok (.pop, 1) := db_of db_8 36 rfl
theorem dL_law_734 : decode cL_law 734 = .ok (.aload_n 2, 1) := db_of db_8 37 rfl
