set_option maxRecDepth 20000 in
theorem ggX0_take_X0_goOn : GoodIn wsX0_take wsX0_goOn := goodIn_r _ [12, 2, 3, 13, 14, 15] rfl (by decide +kernel)
set_option maxRecDepth 20000 in
theorem gX0_take_X0_goOn : GoodIn wsX0_take (wsV RX0 23 RX0 yX0_goOn wsX0_goOn) := goodIn_app (goodIn_r _ [8, 9, 10, 11] rfl (by decide +kernel)) ggX0_take_X0_goOn
set_option maxRecDepth 20000 in
theorem ggX1_remake_X1_startOrder : GoodIn wsX1_remake wsX1_startOrder := goodIn_r _ [7, 1, 8, 32, 33, 34, 35] rfl (by decide +kernel)
set_option maxRecDepth 20000 in
theorem gX1_remake_X1_startOrder : GoodIn wsX1_remake (wsV RX1 26 RX1 yX1_startOrder wsX1_startOrder) := goodIn_app (goodIn_r _ [3, 4, 5, 6] rfl (by decide +kernel)) ggX1_remake_X1_startOrder
set_option maxRecDepth 20000 in
theorem ggX1_remake_X1_bitsInOrder : GoodIn wsX1_remake wsX1_bitsInOrder := goodIn_r _ [12, 1, 8, 32, 33, 34, 35] rfl (by decide +kernel)
set_option maxRecDepth 20000 in
theorem gX1_remake_X1_bitsInOrder : GoodIn wsX1_remake (wsV RX1 29 RX1 yX1_bitsInOrder wsX1_bitsInOrder) := goodIn_app (goodIn_r _ [9, 10, 11, 6] rfl (by decide +kernel)) ggX1_remake_X1_bitsInOrder
set_option maxRecDepth 20000 in
theorem ggX1_remake_J13_bitCount_95d88 : GoodIn wsX1_remake wsJ13_bitCount_95d88 := goodIn_r _ [16, 17, 18, 19] rfl (by decide +kernel)
set_option maxRecDepth 20000 in
theorem gX1_remake_J13_bitCount_95d88 : GoodIn wsX1_remake (va_wsS RX1 33 yJ13_bitCount_95d88 wsJ13_bitCount_95d88) := goodIn_app (goodIn_r _ [13, 14, 15] rfl (by decide +kernel)) ggX1_remake_J13_bitCount_95d88
set_option maxRecDepth 20000 in
theorem ggX1_remake_X1_part : GoodIn wsX1_remake wsX1_part := goodIn_r _ [23, 1, 8, 24, 25, 26, 27, 28, 29, 30, 31, 32, 33, 34, 35] rfl (by decide +kernel)
set_option maxRecDepth 20000 in
theorem gX1_remake_X1_part : GoodIn wsX1_remake (wsV RX1 39 RX1 yX1_part wsX1_part) := goodIn_app (goodIn_r _ [20, 21, 22, 6] rfl (by decide +kernel)) ggX1_remake_X1_part
set_option maxRecDepth 20000 in
theorem ggX1_placeAt_X1_startOrder : GoodIn wsX1_placeAt wsX1_startOrder := goodIn_r _ [7, 8, 2, 21, 22, 23, 24] rfl (by decide +kernel)
set_option maxRecDepth 20000 in
theorem gX1_placeAt_X1_startOrder : GoodIn wsX1_placeAt (wsV RX1 26 RX1 yX1_startOrder wsX1_startOrder) := goodIn_app (goodIn_r _ [3, 4, 5, 6] rfl (by decide +kernel)) ggX1_placeAt_X1_startOrder
set_option maxRecDepth 20000 in
theorem ggX1_placeAt_X1_part : GoodIn wsX1_placeAt wsX1_part := goodIn_r _ [12, 8, 2, 13, 14, 15, 16, 17, 18, 19, 20, 21, 22, 23, 24] rfl (by decide +kernel)
set_option maxRecDepth 20000 in
theorem gX1_placeAt_X1_part : GoodIn wsX1_placeAt (wsV RX1 39 RX1 yX1_part wsX1_part) := goodIn_app (goodIn_r _ [9, 10, 11, 6] rfl (by decide +kernel)) ggX1_placeAt_X1_part
set_option maxRecDepth 20000 in
theorem ggX1_part_X8_bitAt : GoodIn wsX1_part wsX8_bitAt := goodIn_r _ [10] rfl (by decide +kernel)
set_option maxRecDepth 20000 in
theorem ggX2_search_X2_takeLine : GoodIn wsX2_search wsX2_takeLine := goodIn_r _ [9, 2, 10, 11, 12, 8, 13, 50, 51, 52, 53, 54, 55, 56, 57, 58] rfl (by decide +kernel)
set_option maxRecDepth 20000 in
theorem gX2_search_X2_takeLine : GoodIn wsX2_search (wsV RX2 44 RX2 yX2_takeLine wsX2_takeLine) := goodIn_app (goodIn_r _ [5, 6, 7, 8] rfl (by decide +kernel)) ggX2_search_X2_takeLine
set_option maxRecDepth 20000 in
theorem ggX2_search_J6_bitCount_0f7a4 : GoodIn wsX2_search wsJ6_bitCount_0f7a4 := goodIn_r _ [17, 18, 19, 20] rfl (by decide +kernel)
set_option maxRecDepth 20000 in
theorem gX2_search_J6_bitCount_0f7a4 : GoodIn wsX2_search (va_wsS RX2 48 yJ6_bitCount_0f7a4 wsJ6_bitCount_0f7a4) := goodIn_app (goodIn_r _ [14, 15, 16] rfl (by decide +kernel)) ggX2_search_J6_bitCount_0f7a4
set_option maxRecDepth 20000 in
theorem ggX2_search_X2_tryBits : GoodIn wsX2_search wsX2_tryBits := goodIn_r _ [24, 3, 10, 25, 4, 26, 27, 28, 29, 8, 30, 2, 31, 32, 33, 34, 35, 36, 37, 38, 39, 40, 41, 42, 43, 44, 21, 22, 23, 50, 51, 52, 53, 54, 55, 56, 57, 58] rfl (by decide +kernel)
set_option maxRecDepth 20000 in
theorem gX2_search_X2_tryBits : GoodIn wsX2_search (wsV RX2 54 RX2 yX2_tryBits wsX2_tryBits) := goodIn_app (goodIn_r _ [21, 22, 23, 8] rfl (by decide +kernel)) ggX2_search_X2_tryBits
set_option maxRecDepth 20000 in
theorem ggX2_search_X2_fillOrder : GoodIn wsX2_search wsX2_fillOrder := goodIn_r _ [48, 3, 35, 49, 36, 37, 38, 39, 50, 51, 52, 53, 54, 55, 56, 57, 58] rfl (by decide +kernel)
set_option maxRecDepth 20000 in
theorem gX2_search_X2_fillOrder : GoodIn wsX2_search (wsV RX2 58 RX2 yX2_fillOrder wsX2_fillOrder) := goodIn_app (goodIn_r _ [45, 46, 47, 8] rfl (by decide +kernel)) ggX2_search_X2_fillOrder
set_option maxRecDepth 20000 in
theorem ggX2_takeLine_X2_lanesOf : GoodIn wsX2_takeLine wsX2_lanesOf := goodIn_r _ [6] rfl (by decide +kernel)
set_option maxRecDepth 20000 in
theorem gX2_takeLine_X2_lanesOf : GoodIn wsX2_takeLine (va_wsS RX2 62 yX2_lanesOf wsX2_lanesOf) := goodIn_app (goodIn_r _ [3, 4, 5] rfl (by decide +kernel)) ggX2_takeLine_X2_lanesOf
set_option maxRecDepth 20000 in
theorem ggX2_tryBits_X2_changesOf : GoodIn wsX2_tryBits wsX2_changesOf := goodIn_r _ [10, 11, 29, 30, 31, 32, 33, 34, 35, 36, 37] rfl (by decide +kernel)
set_option maxRecDepth 20000 in
theorem gX2_tryBits_X2_changesOf : GoodIn wsX2_tryBits (wsV RX2 66 RX2 yX2_changesOf wsX2_changesOf) := goodIn_app (goodIn_r _ [6, 7, 8, 9] rfl (by decide +kernel)) ggX2_tryBits_X2_changesOf
set_option maxRecDepth 20000 in
theorem ggX2_tryBits_X2_takeBit : GoodIn wsX2_tryBits wsX2_takeBit := goodIn_r _ [15, 4, 5, 16, 1, 17, 18, 19, 20, 2, 21, 22, 23, 9, 24, 11, 25, 26, 27, 28, 0, 3, 6, 7, 8, 10, 12, 13, 14, 29, 30, 31, 32, 33, 34, 35, 36, 37] rfl (by decide +kernel)
set_option maxRecDepth 20000 in
theorem gX2_tryBits_X2_takeBit : GoodIn wsX2_tryBits (wsV RX2 72 RX2 yX2_takeBit wsX2_takeBit) := goodIn_app (goodIn_r _ [12, 13, 14, 9] rfl (by decide +kernel)) ggX2_tryBits_X2_takeBit
set_option maxRecDepth 20000 in
theorem ggX2_takeBit_X2_part : GoodIn wsX2_takeBit wsX2_part := goodIn_r _ [14, 15, 16, 5, 6, 7, 8, 29, 30, 31, 32, 33, 34, 35, 36, 37] rfl (by decide +kernel)
set_option maxRecDepth 20000 in
theorem gX2_takeBit_X2_part : GoodIn wsX2_takeBit (wsV RX2 81 RX2 yX2_part wsX2_part) := goodIn_app (goodIn_r _ [10, 11, 12, 13] rfl (by decide +kernel)) ggX2_takeBit_X2_part
set_option maxRecDepth 20000 in
theorem ggX2_takeBit_X2_tryBits : GoodIn wsX2_takeBit wsX2_tryBits := goodIn_r _ [20, 4, 9, 21, 1, 2, 22, 23, 24, 13, 25, 15, 26, 27, 28, 0, 3, 5, 6, 7, 8, 10, 11, 12, 14, 16, 17, 18, 19, 29, 30, 31, 32, 33, 34, 35, 36, 37] rfl (by decide +kernel)
set_option maxRecDepth 20000 in
theorem gX2_takeBit_X2_tryBits : GoodIn wsX2_takeBit (wsV RX2 54 RX2 yX2_tryBits wsX2_tryBits) := goodIn_app (goodIn_r _ [17, 18, 19, 13] rfl (by decide +kernel)) ggX2_takeBit_X2_tryBits
set_option maxRecDepth 20000 in
theorem ggX3_read_X3_readPart : GoodIn wsX3_read wsX3_readPart := goodIn_r _ [7, 2, 1, 8, 9, 10, 11, 6, 12, 13, 14, 15, 16, 17, 18, 19, 20, 21, 22, 23, 24, 25, 26, 27] rfl (by decide +kernel)
set_option maxRecDepth 20000 in
theorem gX3_read_X3_readPart : GoodIn wsX3_read (wsV RX3 25 RX3 yX3_readPart wsX3_readPart) := goodIn_app (goodIn_r _ [3, 4, 5, 6] rfl (by decide +kernel)) ggX3_read_X3_readPart
set_option maxRecDepth 20000 in
theorem ggX3_read_X5_at : GoodIn wsX3_read wsX5_at := goodIn_r _ [17, 18, 19, 26, 27] rfl (by decide +kernel)
set_option maxRecDepth 20000 in
theorem gX3_read_X5_at : GoodIn wsX3_read (wsV RX3 29 RX5 yX5_at wsX5_at) := goodIn_app (goodIn_r _ [13, 14, 15, 16] rfl (by decide +kernel)) ggX3_read_X5_at
set_option maxRecDepth 20000 in
theorem ggX3_readPart_X3_readDigits : GoodIn wsX3_readPart wsX3_readDigits := goodIn_r _ [8, 1, 9, 10, 11, 12, 13, 14, 15, 16, 17, 7, 18, 19, 20, 21, 22, 23] rfl (by decide +kernel)
set_option maxRecDepth 20000 in
theorem gX3_readPart_X3_readDigits : GoodIn wsX3_readPart (wsV RX3 32 RX3 yX3_readDigits wsX3_readDigits) := goodIn_app (goodIn_r _ [4, 5, 6, 7] rfl (by decide +kernel)) ggX3_readPart_X3_readDigits
set_option maxRecDepth 20000 in
theorem ggX3_readPart_X5_at : GoodIn wsX3_readPart wsX5_at := goodIn_r _ [13, 14, 15, 22, 23] rfl (by decide +kernel)
set_option maxRecDepth 20000 in
theorem gX3_readPart_X5_at : GoodIn wsX3_readPart (wsV RX3 29 RX5 yX5_at wsX5_at) := goodIn_app (goodIn_r _ [9, 10, 11, 12] rfl (by decide +kernel)) ggX3_readPart_X5_at
set_option maxRecDepth 20000 in
theorem ggX3_readDigits_X5_at : GoodIn wsX3_readDigits wsX5_at := goodIn_r _ [6, 7, 8, 16, 17] rfl (by decide +kernel)
set_option maxRecDepth 20000 in
theorem gX3_readDigits_X5_at : GoodIn wsX3_readDigits (wsV RX3 29 RX5 yX5_at wsX5_at) := goodIn_app (goodIn_r _ [2, 3, 4, 5] rfl (by decide +kernel)) ggX3_readDigits_X5_at
set_option maxRecDepth 20000 in
theorem ggX3_readDigits_X3_isDigit : GoodIn wsX3_readDigits wsX3_isDigit := goodIn_r _ [12] rfl (by decide +kernel)
set_option maxRecDepth 20000 in
theorem gX3_readDigits_X3_isDigit : GoodIn wsX3_readDigits (va_wsS RX3 36 yX3_isDigit wsX3_isDigit) := goodIn_app (goodIn_r _ [9, 10, 11] rfl (by decide +kernel)) ggX3_readDigits_X3_isDigit
set_option maxRecDepth 20000 in
theorem ggX4_read_X4_readBits : GoodIn wsX4_read wsX4_readBits := goodIn_r _ [6, 7, 8, 9, 10, 11, 12, 13, 14, 15, 16, 5, 17, 18, 19, 20, 21] rfl (by decide +kernel)
set_option maxRecDepth 20000 in
theorem gX4_read_X4_readBits : GoodIn wsX4_read (wsV RX4 19 RX4 yX4_readBits wsX4_readBits) := goodIn_app (goodIn_r _ [2, 3, 4, 5] rfl (by decide +kernel)) ggX4_read_X4_readBits
set_option maxRecDepth 20000 in
theorem ggX4_read_X5_at : GoodIn wsX4_read wsX5_at := goodIn_r _ [12, 13, 14, 20, 21] rfl (by decide +kernel)
set_option maxRecDepth 20000 in
theorem gX4_read_X5_at : GoodIn wsX4_read (wsV RX4 25 RX5 yX5_at wsX5_at) := goodIn_app (goodIn_r _ [8, 9, 10, 11] rfl (by decide +kernel)) ggX4_read_X5_at
set_option maxRecDepth 20000 in
theorem ggX4_readBits_X5_at : GoodIn wsX4_readBits wsX5_at := goodIn_r _ [6, 7, 8, 15, 16] rfl (by decide +kernel)
set_option maxRecDepth 20000 in
theorem gX4_readBits_X5_at : GoodIn wsX4_readBits (wsV RX4 25 RX5 yX5_at wsX5_at) := goodIn_app (goodIn_r _ [2, 3, 4, 5] rfl (by decide +kernel)) ggX4_readBits_X5_at
set_option maxRecDepth 20000 in
theorem ggX4_readBits_X4_isBit : GoodIn wsX4_readBits wsX4_isBit := goodIn_r _ [12] rfl (by decide +kernel)
set_option maxRecDepth 20000 in
theorem gX4_readBits_X4_isBit : GoodIn wsX4_readBits (va_wsS RX4 29 yX4_isBit wsX4_isBit) := goodIn_app (goodIn_r _ [9, 10, 11] rfl (by decide +kernel)) ggX4_readBits_X4_isBit
set_option maxRecDepth 20000 in
theorem ggX6_take_J7_fill_53178 : GoodIn wsX6_take wsJ7_fill_53178 := goodIn_r _ [5] rfl (by decide +kernel)
set_option maxRecDepth 20000 in
theorem gX6_take_J7_fill_53178 : GoodIn wsX6_take (va_wsS RX6 22 yJ7_fill_53178 wsJ7_fill_53178) := goodIn_app (goodIn_r _ [2, 3, 4] rfl (by decide +kernel)) ggX6_take_J7_fill_53178
set_option maxRecDepth 20000 in
theorem ggX6_take_X6_sort : GoodIn wsX6_take wsX6_sort := goodIn_r _ [10, 11, 12, 13, 14, 15, 9, 16, 17, 18, 19, 20, 1, 21, 22, 23] rfl (by decide +kernel)
set_option maxRecDepth 20000 in
theorem gX6_take_X6_sort : GoodIn wsX6_take (wsV RX6 28 RX6 yX6_sort wsX6_sort) := goodIn_app (goodIn_r _ [6, 7, 8, 9] rfl (by decide +kernel)) ggX6_take_X6_sort
set_option maxRecDepth 20000 in
theorem ggX6_sort_X6_timesOf : GoodIn wsX6_sort wsX6_timesOf := goodIn_r _ [7, 8, 9, 10, 6, 11, 12, 13, 14, 15] rfl (by decide +kernel)
set_option maxRecDepth 20000 in
theorem gX6_sort_X6_timesOf : GoodIn wsX6_sort (wsV RX6 31 RX6 yX6_timesOf wsX6_timesOf) := goodIn_app (goodIn_r _ [3, 4, 5, 6] rfl (by decide +kernel)) ggX6_sort_X6_timesOf
set_option maxRecDepth 20000 in
theorem ggX6_timesOf_X6_inNode : GoodIn wsX6_timesOf wsX6_inNode := goodIn_r _ [5, 6, 7, 8, 9] rfl (by decide +kernel)
set_option maxRecDepth 20000 in
theorem gX6_timesOf_X6_inNode : GoodIn wsX6_timesOf (wsV RX6 35 RX6 yX6_inNode wsX6_inNode) := goodIn_app (goodIn_r _ [1, 2, 3, 4] rfl (by decide +kernel)) ggX6_timesOf_X6_inNode
set_option maxRecDepth 20000 in
theorem ggX6_visitsOfBand_X6_isWithin : GoodIn wsX6_visitsOfBand wsX6_isWithin := goodIn_r _ [4] rfl (by decide +kernel)
set_option maxRecDepth 20000 in
theorem gX6_visitsOfBand_X6_isWithin : GoodIn wsX6_visitsOfBand (va_wsS RX6 39 yX6_isWithin wsX6_isWithin) := goodIn_app (goodIn_r _ [1, 2, 3] rfl (by decide +kernel)) ggX6_visitsOfBand_X6_isWithin
set_option maxRecDepth 20000 in
theorem ggX6_visitsOfBand_X6_inNode : GoodIn wsX6_visitsOfBand wsX6_inNode := goodIn_r _ [8, 9, 10, 11, 12] rfl (by decide +kernel)
set_option maxRecDepth 20000 in
theorem gX6_visitsOfBand_X6_inNode : GoodIn wsX6_visitsOfBand (wsV RX6 35 RX6 yX6_inNode wsX6_inNode) := goodIn_app (goodIn_r _ [5, 6, 7, 3] rfl (by decide +kernel)) ggX6_visitsOfBand_X6_inNode
set_option maxRecDepth 20000 in
theorem ggX8_init_X1_init : GoodIn wsX8_init wsX1_init := goodIn_r _ [41, 42, 2, 3, 43, 44, 4, 45, 46, 47, 105, 106, 107, 108] rfl (by decide +kernel)
set_option maxRecDepth 20000 in
theorem ggX8_init_X5_init : GoodIn wsX8_init wsX5_init := goodIn_r _ [49, 50, 2, 3, 4, 51, 52, 109, 110] rfl (by decide +kernel)
set_option maxRecDepth 20000 in
theorem ggX8_init_X7_init : GoodIn wsX8_init wsX7_init := goodIn_r _ [54, 55, 2, 3, 43, 56, 57, 111, 112] rfl (by decide +kernel)
set_option maxRecDepth 20000 in
theorem ggX8_init_X6_init : GoodIn wsX8_init wsX6_init := goodIn_r _ [59, 60, 2, 3, 4, 61, 62, 63, 113, 114, 115] rfl (by decide +kernel)
set_option maxRecDepth 20000 in
theorem ggX8_init_X3_init : GoodIn wsX8_init wsX3_init := goodIn_r _ [65, 66, 2, 3, 4, 67, 68, 69, 116, 117, 118] rfl (by decide +kernel)
set_option maxRecDepth 20000 in
theorem ggX8_init_X4_init : GoodIn wsX8_init wsX4_init := goodIn_r _ [71, 72, 2, 3, 43, 73, 74, 119, 120] rfl (by decide +kernel)
set_option maxRecDepth 20000 in
theorem ggX8_init_X2_init : GoodIn wsX8_init wsX2_init := goodIn_r _ [76, 77, 2, 3, 78, 43, 79, 80, 4, 81, 82, 83, 84, 85, 86, 87, 121, 122, 123, 124, 125, 126, 127, 128, 129] rfl (by decide +kernel)
set_option maxRecDepth 20000 in
theorem ggX8_init_X0_init : GoodIn wsX8_init wsX0_init := goodIn_r _ [89, 90, 2, 3, 4, 91, 43, 92, 93, 130, 131, 132] rfl (by decide +kernel)
set_option maxRecDepth 20000 in
theorem ggX8_column_X3_read : GoodIn wsX8_column wsX3_read := goodIn_r _ [13, 14, 15, 16, 17, 18, 12, 19, 20, 21, 22, 23, 24, 25, 26, 27, 28, 29, 30, 31, 32, 33, 34, 94, 95, 96, 97, 98] rfl (by decide +kernel)
set_option maxRecDepth 20000 in
theorem gX8_column_X3_read : GoodIn wsX8_column (wsV RX8 76 RX3 yX3_read wsX3_read) := goodIn_app (goodIn_r _ [9, 10, 11, 12] rfl (by decide +kernel)) ggX8_column_X3_read
set_option maxRecDepth 20000 in
theorem ggX8_column_X5_keep : GoodIn wsX8_column wsX5_keep := goodIn_r _ [38, 30, 97, 98] rfl (by decide +kernel)
set_option maxRecDepth 20000 in
theorem gX8_column_X5_keep : GoodIn wsX8_column (wsV RX8 80 RX5 yX5_keep wsX5_keep) := goodIn_app (goodIn_r _ [35, 36, 37, 28] rfl (by decide +kernel)) ggX8_column_X5_keep
set_option maxRecDepth 20000 in
theorem ggX8_column_X8_settle : GoodIn wsX8_column wsX8_settle := goodIn_r _ [43, 44, 45, 4, 3, 46, 47, 48, 49, 50, 51, 52, 53, 54, 55, 56, 57, 58, 59, 60, 61, 62, 63, 64, 65, 66, 67, 68, 69, 70, 71, 72, 73, 74, 75, 76, 77, 78, 79, 80, 6, 7, 8, 81, 42, 82, 83, 84, 85, 86, 87, 88, 89, 90, 91, 92, 93, 99, 100, 101, 102, 103, 104, 105, 106, 107, 108, 109, 110, 111] rfl (by decide +kernel)
set_option maxRecDepth 20000 in
theorem gX8_column_X8_settle : GoodIn wsX8_column (wsV RX8 92 RX8 yX8_settle wsX8_settle) := goodIn_app (goodIn_r _ [39, 40, 41, 42] rfl (by decide +kernel)) ggX8_column_X8_settle
set_option maxRecDepth 20000 in
theorem ggX8_planes_X4_read : GoodIn wsX8_planes wsX4_read := goodIn_r _ [9, 10, 11, 12, 13, 8, 14, 15, 16, 17, 18, 19, 20, 21, 22, 23, 24, 25, 100, 101, 102, 103] rfl (by decide +kernel)
set_option maxRecDepth 20000 in
theorem gX8_planes_X4_read : GoodIn wsX8_planes (wsV RX8 96 RX4 yX4_read wsX4_read) := goodIn_app (goodIn_r _ [5, 6, 7, 8] rfl (by decide +kernel)) ggX8_planes_X4_read
set_option maxRecDepth 20000 in
theorem ggX8_planes_X5_keep : GoodIn wsX8_planes wsX5_keep := goodIn_r _ [29, 21, 102, 103] rfl (by decide +kernel)
set_option maxRecDepth 20000 in
theorem gX8_planes_X5_keep : GoodIn wsX8_planes (wsV RX8 80 RX5 yX5_keep wsX5_keep) := goodIn_app (goodIn_r _ [26, 27, 28, 19] rfl (by decide +kernel)) ggX8_planes_X5_keep
set_option maxRecDepth 20000 in
theorem ggX8_planes_X8_numberIn : GoodIn wsX8_planes wsX8_numberIn := goodIn_r _ [33, 34, 35, 32, 36, 37, 38, 39, 40, 41, 42, 43, 44, 45, 46, 47, 48, 49, 50] rfl (by decide +kernel)
set_option maxRecDepth 20000 in
theorem gX8_planes_X8_numberIn : GoodIn wsX8_planes (va_wsS RX8 104 yX8_numberIn wsX8_numberIn) := goodIn_app (goodIn_r _ [30, 31, 32] rfl (by decide +kernel)) ggX8_planes_X8_numberIn
set_option maxRecDepth 20000 in
theorem ggX8_planes_X8_settle : GoodIn wsX8_planes wsX8_settle := goodIn_r _ [54, 55, 56, 4, 3, 57, 58, 59, 60, 61, 62, 63, 64, 65, 66, 67, 68, 69, 70, 71, 72, 73, 74, 75, 76, 77, 78, 79, 45, 46, 47, 48, 49, 50, 80, 81, 82, 83, 84, 85, 86, 87, 88, 35, 32, 36, 89, 90, 91, 92, 93, 94, 95, 96, 97, 98, 99, 104, 105, 106, 107, 108, 109, 110, 111, 112, 113, 114, 115, 116] rfl (by decide +kernel)
set_option maxRecDepth 20000 in
theorem gX8_planes_X8_settle : GoodIn wsX8_planes (wsV RX8 92 RX8 yX8_settle wsX8_settle) := goodIn_app (goodIn_r _ [51, 52, 53, 32] rfl (by decide +kernel)) ggX8_planes_X8_settle
set_option maxRecDepth 20000 in
theorem ggX8_adds_X8_isNumber : GoodIn wsX8_adds wsX8_isNumber := goodIn_r _ [6] rfl (by decide +kernel)
set_option maxRecDepth 20000 in
theorem gX8_adds_X8_isNumber : GoodIn wsX8_adds (va_wsS RX8 108 yX8_isNumber wsX8_isNumber) := goodIn_app (goodIn_r _ [3, 4, 5] rfl (by decide +kernel)) ggX8_adds_X8_isNumber
set_option maxRecDepth 20000 in
theorem ggX8_adds_X8_settle : GoodIn wsX8_adds wsX8_settle := goodIn_r _ [10, 11, 12, 2, 1, 13, 14, 15, 16, 17, 18, 19, 20, 21, 22, 23, 24, 25, 26, 27, 28, 29, 30, 31, 32, 33, 34, 35, 36, 37, 38, 39, 40, 41, 42, 43, 44, 45, 46, 47, 48, 49, 50, 51, 5, 52, 53, 54, 55, 56, 57, 58, 59, 60, 61, 62, 63, 64, 65, 66, 67, 68, 69, 70, 71, 72, 73, 74, 75, 76] rfl (by decide +kernel)
set_option maxRecDepth 20000 in
theorem gX8_adds_X8_settle : GoodIn wsX8_adds (wsV RX8 92 RX8 yX8_settle wsX8_settle) := goodIn_app (goodIn_r _ [7, 8, 9, 5] rfl (by decide +kernel)) ggX8_adds_X8_settle
set_option maxRecDepth 20000 in
theorem ggX8_puts_X8_isNumber : GoodIn wsX8_puts wsX8_isNumber := goodIn_r _ [5] rfl (by decide +kernel)
set_option maxRecDepth 20000 in
theorem gX8_puts_X8_isNumber : GoodIn wsX8_puts (va_wsS RX8 108 yX8_isNumber wsX8_isNumber) := goodIn_app (goodIn_r _ [2, 3, 4] rfl (by decide +kernel)) ggX8_puts_X8_isNumber
set_option maxRecDepth 20000 in
theorem ggX8_puts_X8_isPlace : GoodIn wsX8_puts wsX8_isPlace := goodIn_r _ [9, 10, 73, 74, 75, 76, 77, 78, 79, 80, 81, 82, 83] rfl (by decide +kernel)
set_option maxRecDepth 20000 in
theorem gX8_puts_X8_isPlace : GoodIn wsX8_puts (wsV RX8 111 RX8 yX8_isPlace wsX8_isPlace) := goodIn_app (goodIn_r _ [6, 7, 8, 4] rfl (by decide +kernel)) ggX8_puts_X8_isPlace
set_option maxRecDepth 20000 in
theorem ggX8_puts_X8_settle : GoodIn wsX8_puts wsX8_settle := goodIn_r _ [14, 15, 16, 1, 10, 17, 18, 19, 20, 21, 22, 23, 24, 25, 26, 27, 28, 29, 30, 31, 32, 33, 34, 35, 36, 37, 38, 39, 40, 41, 42, 43, 44, 45, 46, 47, 48, 49, 50, 51, 52, 53, 54, 55, 4, 56, 73, 74, 75, 76, 77, 78, 79, 80, 81, 82, 83, 84, 85, 86, 87, 88, 89, 90, 91, 92, 93, 94, 95, 96] rfl (by decide +kernel)
set_option maxRecDepth 20000 in
theorem gX8_puts_X8_settle : GoodIn wsX8_puts (wsV RX8 92 RX8 yX8_settle wsX8_settle) := goodIn_app (goodIn_r _ [11, 12, 13, 4] rfl (by decide +kernel)) ggX8_puts_X8_settle
set_option maxRecDepth 20000 in
theorem ggX8_puts_X8_tell : GoodIn wsX8_puts wsX8_tell := goodIn_r _ [60, 61, 62, 63, 64, 65, 66, 67, 68, 69, 70, 71, 72, 73, 74, 75, 76, 77, 78, 79, 80, 81, 82, 83, 97, 98] rfl (by decide +kernel)
set_option maxRecDepth 20000 in
theorem gX8_puts_X8_tell : GoodIn wsX8_puts (wsV RX8 114 RX8 yX8_tell wsX8_tell) := goodIn_app (goodIn_r _ [57, 58, 59, 4] rfl (by decide +kernel)) ggX8_puts_X8_tell
set_option maxRecDepth 20000 in
theorem ggX8_cuts_X8_isPlace : GoodIn wsX8_cuts wsX8_isPlace := goodIn_r _ [7, 2, 54, 55, 56, 57, 58, 59, 60, 61, 62, 63, 64] rfl (by decide +kernel)
set_option maxRecDepth 20000 in
theorem gX8_cuts_X8_isPlace : GoodIn wsX8_cuts (wsV RX8 111 RX8 yX8_isPlace wsX8_isPlace) := goodIn_app (goodIn_r _ [3, 4, 5, 6] rfl (by decide +kernel)) ggX8_cuts_X8_isPlace
set_option maxRecDepth 20000 in
theorem ggX8_cuts_X8_settle : GoodIn wsX8_cuts wsX8_settle := goodIn_r _ [11, 12, 13, 1, 2, 14, 15, 16, 17, 18, 19, 20, 21, 22, 23, 24, 25, 26, 27, 28, 29, 30, 31, 32, 33, 34, 35, 36, 37, 38, 39, 40, 41, 42, 43, 44, 45, 46, 47, 48, 49, 50, 51, 52, 6, 53, 54, 55, 56, 57, 58, 59, 60, 61, 62, 63, 64, 65, 66, 67, 68, 69, 70, 71, 72, 73, 74, 75, 76, 77] rfl (by decide +kernel)
set_option maxRecDepth 20000 in
theorem gX8_cuts_X8_settle : GoodIn wsX8_cuts (wsV RX8 92 RX8 yX8_settle wsX8_settle) := goodIn_app (goodIn_r _ [8, 9, 10, 6] rfl (by decide +kernel)) ggX8_cuts_X8_settle
set_option maxRecDepth 20000 in
theorem ggX8_swaps_X8_isPlace : GoodIn wsX8_swaps wsX8_isPlace := goodIn_r _ [5, 6, 58, 59, 60, 61, 62, 63, 64, 65, 66, 67, 68] rfl (by decide +kernel)
set_option maxRecDepth 20000 in
theorem gX8_swaps_X8_isPlace : GoodIn wsX8_swaps (wsV RX8 111 RX8 yX8_isPlace wsX8_isPlace) := goodIn_app (goodIn_r _ [1, 2, 3, 4] rfl (by decide +kernel)) ggX8_swaps_X8_isPlace
set_option maxRecDepth 20000 in
theorem ggX8_swaps_X8_exchange : GoodIn wsX8_swaps wsX8_exchange := goodIn_r _ [10, 11, 58, 59, 60, 61, 62, 63, 64, 65, 66, 67, 68] rfl (by decide +kernel)
set_option maxRecDepth 20000 in
theorem gX8_swaps_X8_exchange : GoodIn wsX8_swaps (wsV RX8 118 RX8 yX8_exchange wsX8_exchange) := goodIn_app (goodIn_r _ [7, 8, 9, 4] rfl (by decide +kernel)) ggX8_swaps_X8_exchange
set_option maxRecDepth 20000 in
theorem ggX8_swaps_X8_settle : GoodIn wsX8_swaps wsX8_settle := goodIn_r _ [15, 16, 17, 11, 6, 18, 19, 20, 21, 22, 23, 24, 25, 26, 27, 28, 29, 30, 31, 32, 33, 34, 35, 36, 37, 38, 39, 40, 41, 42, 43, 44, 45, 46, 47, 48, 49, 50, 51, 52, 53, 54, 55, 56, 4, 57, 58, 59, 60, 61, 62, 63, 64, 65, 66, 67, 68, 69, 70, 71, 72, 73, 74, 75, 76, 77, 78, 79, 80, 81] rfl (by decide +kernel)
set_option maxRecDepth 20000 in
theorem gX8_swaps_X8_settle : GoodIn wsX8_swaps (wsV RX8 92 RX8 yX8_settle wsX8_settle) := goodIn_app (goodIn_r _ [12, 13, 14, 4] rfl (by decide +kernel)) ggX8_swaps_X8_settle
set_option maxRecDepth 20000 in
theorem ggX8_reverses_X8_isSpan : GoodIn wsX8_reverses wsX8_isSpan := goodIn_r _ [5, 6, 58, 59, 60, 61, 62, 63, 64, 65, 66, 67, 68] rfl (by decide +kernel)
set_option maxRecDepth 20000 in
theorem gX8_reverses_X8_isSpan : GoodIn wsX8_reverses (wsV RX8 122 RX8 yX8_isSpan wsX8_isSpan) := goodIn_app (goodIn_r _ [1, 2, 3, 4] rfl (by decide +kernel)) ggX8_reverses_X8_isSpan
set_option maxRecDepth 20000 in
theorem ggX8_reverses_X8_exchange : GoodIn wsX8_reverses wsX8_exchange := goodIn_r _ [10, 11, 58, 59, 60, 61, 62, 63, 64, 65, 66, 67, 68] rfl (by decide +kernel)
set_option maxRecDepth 20000 in
theorem gX8_reverses_X8_exchange : GoodIn wsX8_reverses (wsV RX8 118 RX8 yX8_exchange wsX8_exchange) := goodIn_app (goodIn_r _ [7, 8, 9, 4] rfl (by decide +kernel)) ggX8_reverses_X8_exchange
set_option maxRecDepth 20000 in
theorem ggX8_reverses_X8_settle : GoodIn wsX8_reverses wsX8_settle := goodIn_r _ [15, 16, 17, 11, 6, 18, 19, 20, 21, 22, 23, 24, 25, 26, 27, 28, 29, 30, 31, 32, 33, 34, 35, 36, 37, 38, 39, 40, 41, 42, 43, 44, 45, 46, 47, 48, 49, 50, 51, 52, 53, 54, 55, 56, 4, 57, 58, 59, 60, 61, 62, 63, 64, 65, 66, 67, 68, 69, 70, 71, 72, 73, 74, 75, 76, 77, 78, 79, 80, 81] rfl (by decide +kernel)
set_option maxRecDepth 20000 in
theorem gX8_reverses_X8_settle : GoodIn wsX8_reverses (wsV RX8 92 RX8 yX8_settle wsX8_settle) := goodIn_app (goodIn_r _ [12, 13, 14, 4] rfl (by decide +kernel)) ggX8_reverses_X8_settle
set_option maxRecDepth 20000 in
theorem ggX8_sign_X5_add : GoodIn wsX8_sign wsX5_add := goodIn_r _ [6, 7, 8, 20, 21] rfl (by decide +kernel)
set_option maxRecDepth 20000 in
theorem gX8_sign_X5_add : GoodIn wsX8_sign (wsV RX8 126 RX5 yX5_add wsX5_add) := goodIn_app (goodIn_r _ [2, 3, 4, 5] rfl (by decide +kernel)) ggX8_sign_X5_add
set_option maxRecDepth 20000 in
theorem ggX8_end_X5_keep : GoodIn wsX8_end wsX5_keep := goodIn_r _ [6, 7, 19, 20] rfl (by decide +kernel)
set_option maxRecDepth 20000 in
theorem gX8_end_X5_keep : GoodIn wsX8_end (wsV RX8 80 RX5 yX5_keep wsX5_keep) := goodIn_app (goodIn_r _ [2, 3, 4, 5] rfl (by decide +kernel)) ggX8_end_X5_keep
set_option maxRecDepth 20000 in
theorem ggX8_level_X8_runsOf : GoodIn wsX8_level wsX8_runsOf := goodIn_r _ [6, 7, 8, 5, 9, 10, 11, 12, 13, 14, 15, 16, 17] rfl (by decide +kernel)
set_option maxRecDepth 20000 in
theorem gX8_level_X8_runsOf : GoodIn wsX8_level (va_wsS RX8 131 yX8_runsOf wsX8_runsOf) := goodIn_app (goodIn_r _ [3, 4, 5] rfl (by decide +kernel)) ggX8_level_X8_runsOf
set_option maxRecDepth 20000 in
theorem ggX8_level_X8_tell_ : GoodIn wsX8_level wsX8_tell_ := goodIn_r _ [21, 22, 23, 24, 25, 26, 27, 28, 29, 30, 31, 32, 33, 34, 35, 36, 37, 38, 39, 40, 41, 42, 43, 44, 49, 50] rfl (by decide +kernel)
set_option maxRecDepth 20000 in
theorem gX8_level_X8_tell_ : GoodIn wsX8_level (wsV RX8 135 RX8 yX8_tell_ wsX8_tell_) := goodIn_app (goodIn_r _ [18, 19, 20, 5] rfl (by decide +kernel)) ggX8_level_X8_tell_
set_option maxRecDepth 20000 in
theorem ggX8_level_J13_bitCount_95d88 : GoodIn wsX8_level wsJ13_bitCount_95d88 := goodIn_r _ [14, 15, 16, 17] rfl (by decide +kernel)
set_option maxRecDepth 20000 in
theorem gX8_level_J13_bitCount_95d88 : GoodIn wsX8_level (va_wsS RX8 138 yJ13_bitCount_95d88 wsJ13_bitCount_95d88) := goodIn_app (goodIn_r _ [11, 12, 13] rfl (by decide +kernel)) ggX8_level_J13_bitCount_95d88
set_option maxRecDepth 20000 in
theorem ggX8_spot_X8_isPlace : GoodIn wsX8_spot wsX8_isPlace := goodIn_r _ [8, 3, 45, 46, 47, 48, 49, 50, 51, 52, 53, 54, 55] rfl (by decide +kernel)
set_option maxRecDepth 20000 in
theorem gX8_spot_X8_isPlace : GoodIn wsX8_spot (wsV RX8 111 RX8 yX8_isPlace wsX8_isPlace) := goodIn_app (goodIn_r _ [4, 5, 6, 7] rfl (by decide +kernel)) ggX8_spot_X8_isPlace
set_option maxRecDepth 20000 in
theorem ggX8_spot_X8_tell : GoodIn wsX8_spot wsX8_tell := goodIn_r _ [12, 13, 14, 15, 16, 17, 18, 19, 20, 21, 22, 23, 24, 45, 46, 47, 48, 49, 50, 51, 52, 53, 54, 55, 60, 61] rfl (by decide +kernel)
set_option maxRecDepth 20000 in
theorem gX8_spot_X8_tell : GoodIn wsX8_spot (wsV RX8 114 RX8 yX8_tell wsX8_tell) := goodIn_app (goodIn_r _ [9, 10, 11, 7] rfl (by decide +kernel)) ggX8_spot_X8_tell
set_option maxRecDepth 20000 in
theorem ggX8_spot_X8_spotIn : GoodIn wsX8_spot wsX8_spotIn := goodIn_r _ [27, 28, 29, 7, 30, 31, 32, 33, 34, 35, 36, 37, 38, 39, 40, 41, 42, 43, 44] rfl (by decide +kernel)
set_option maxRecDepth 20000 in
theorem gX8_spot_X8_spotIn : GoodIn wsX8_spot (va_wsS RX8 144 yX8_spotIn wsX8_spotIn) := goodIn_app (goodIn_r _ [25, 26, 7] rfl (by decide +kernel)) ggX8_spot_X8_spotIn
set_option maxRecDepth 20000 in
theorem ggX8_from_X8_isPlace : GoodIn wsX8_from wsX8_isPlace := goodIn_r _ [7, 8, 48, 49, 50, 51, 52, 53, 54, 55, 56, 57, 58] rfl (by decide +kernel)
set_option maxRecDepth 20000 in
theorem gX8_from_X8_isPlace : GoodIn wsX8_from (wsV RX8 111 RX8 yX8_isPlace wsX8_isPlace) := goodIn_app (goodIn_r _ [3, 4, 5, 6] rfl (by decide +kernel)) ggX8_from_X8_isPlace
set_option maxRecDepth 20000 in
theorem ggX8_from_X1_placeAt : GoodIn wsX8_from wsX1_placeAt := goodIn_r _ [13, 14, 15, 16, 17, 18, 12, 19, 20, 21, 22, 23, 24, 25, 26, 27, 28, 29, 30, 6, 31, 59, 60, 61, 62] rfl (by decide +kernel)
set_option maxRecDepth 20000 in
theorem gX8_from_X1_placeAt : GoodIn wsX8_from (wsV RX8 148 RX1 yX1_placeAt wsX1_placeAt) := goodIn_app (goodIn_r _ [9, 10, 11, 12] rfl (by decide +kernel)) ggX8_from_X1_placeAt
set_option maxRecDepth 20000 in
theorem ggX8_from_X8_tell : GoodIn wsX8_from wsX8_tell := goodIn_r _ [35, 36, 37, 38, 39, 40, 41, 42, 43, 44, 45, 46, 47, 48, 49, 50, 51, 52, 53, 54, 55, 56, 57, 58, 63, 64] rfl (by decide +kernel)
set_option maxRecDepth 20000 in
theorem gX8_from_X8_tell : GoodIn wsX8_from (wsV RX8 114 RX8 yX8_tell wsX8_tell) := goodIn_app (goodIn_r _ [32, 33, 34, 6] rfl (by decide +kernel)) ggX8_from_X8_tell
set_option maxRecDepth 20000 in
theorem ggX8_runs_X7_begin : GoodIn wsX8_runs wsX7_begin := goodIn_r _ [8, 9, 45, 46] rfl (by decide +kernel)
set_option maxRecDepth 20000 in
theorem gX8_runs_X7_begin : GoodIn wsX8_runs (wsV RX8 152 RX7 yX7_begin wsX7_begin) := goodIn_app (goodIn_r _ [4, 5, 6, 7] rfl (by decide +kernel)) ggX8_runs_X7_begin
set_option maxRecDepth 20000 in
theorem ggX8_runs_X8_runsOf : GoodIn wsX8_runs wsX8_runsOf := goodIn_r _ [13, 14, 15, 12, 16, 17, 18, 19, 20, 21, 22, 23, 24] rfl (by decide +kernel)
set_option maxRecDepth 20000 in
theorem gX8_runs_X8_runsOf : GoodIn wsX8_runs (va_wsS RX8 131 yX8_runsOf wsX8_runsOf) := goodIn_app (goodIn_r _ [10, 11, 12] rfl (by decide +kernel)) ggX8_runs_X8_runsOf
set_option maxRecDepth 20000 in
theorem ggX8_runs_X7_add : GoodIn wsX8_runs wsX7_add := goodIn_r _ [28, 9, 29, 45, 46] rfl (by decide +kernel)
set_option maxRecDepth 20000 in
theorem gX8_runs_X7_add : GoodIn wsX8_runs (wsV RX8 155 RX7 yX7_add wsX7_add) := goodIn_app (goodIn_r _ [25, 26, 27, 7] rfl (by decide +kernel)) ggX8_runs_X7_add
set_option maxRecDepth 20000 in
theorem ggX8_thrift_X2_search : GoodIn wsX8_thrift wsX2_search := goodIn_r _ [9, 10, 11, 12, 13, 14, 15, 16, 8, 17, 18, 19, 20, 21, 22, 23, 24, 25, 26, 27, 28, 29, 30, 31, 32, 33, 34, 35, 36, 37, 38, 39, 40, 41, 42, 43, 44, 45, 46, 47, 48, 49, 50, 51, 52, 53, 54, 55, 56, 57, 80, 81, 82, 83, 84, 85, 86, 87, 88] rfl (by decide +kernel)
set_option maxRecDepth 20000 in
theorem gX8_thrift_X2_search : GoodIn wsX8_thrift (wsV RX8 157 RX2 yX2_search wsX2_search) := goodIn_app (goodIn_r _ [5, 6, 7, 8] rfl (by decide +kernel)) ggX8_thrift_X2_search
set_option maxRecDepth 20000 in
theorem ggX8_thrift_X7_begin : GoodIn wsX8_thrift wsX7_begin := goodIn_r _ [62, 63, 89, 90] rfl (by decide +kernel)
set_option maxRecDepth 20000 in
theorem gX8_thrift_X7_begin : GoodIn wsX8_thrift (wsV RX8 152 RX7 yX7_begin wsX7_begin) := goodIn_app (goodIn_r _ [58, 59, 60, 61] rfl (by decide +kernel)) ggX8_thrift_X7_begin
set_option maxRecDepth 20000 in
theorem ggX8_thrift_X7_add : GoodIn wsX8_thrift wsX7_add := goodIn_r _ [67, 63, 68, 89, 90] rfl (by decide +kernel)
set_option maxRecDepth 20000 in
theorem gX8_thrift_X7_add : GoodIn wsX8_thrift (wsV RX8 155 RX7 yX7_add wsX7_add) := goodIn_app (goodIn_r _ [64, 65, 66, 61] rfl (by decide +kernel)) ggX8_thrift_X7_add
set_option maxRecDepth 20000 in
theorem ggX8_kth_X8_isSpan : GoodIn wsX8_kth wsX8_isSpan := goodIn_r _ [7, 8, 58, 59, 60, 61, 62, 63, 64, 65, 66, 67, 68] rfl (by decide +kernel)
set_option maxRecDepth 20000 in
theorem gX8_kth_X8_isSpan : GoodIn wsX8_kth (wsV RX8 122 RX8 yX8_isSpan wsX8_isSpan) := goodIn_app (goodIn_r _ [3, 4, 5, 6] rfl (by decide +kernel)) ggX8_kth_X8_isSpan
set_option maxRecDepth 20000 in
theorem ggX8_kth_X6_take : GoodIn wsX8_kth wsX6_take := goodIn_r _ [13, 14, 15, 16, 17, 18, 19, 20, 21, 12, 22, 23, 24, 25, 26, 27, 28, 29, 30, 31, 32, 69, 70, 71] rfl (by decide +kernel)
set_option maxRecDepth 20000 in
theorem gX8_kth_X6_take : GoodIn wsX8_kth (wsV RX8 164 RX6 yX6_take wsX6_take) := goodIn_app (goodIn_r _ [9, 10, 11, 12] rfl (by decide +kernel)) ggX8_kth_X6_take
set_option maxRecDepth 20000 in
theorem ggX8_kth_X6_sortedAt : GoodIn wsX8_kth wsX6_sortedAt := goodIn_r _ [36, 23, 24, 69, 70, 71] rfl (by decide +kernel)
set_option maxRecDepth 20000 in
theorem gX8_kth_X6_sortedAt : GoodIn wsX8_kth (wsV RX8 168 RX6 yX6_sortedAt wsX6_sortedAt) := goodIn_app (goodIn_r _ [33, 34, 35, 12] rfl (by decide +kernel)) ggX8_kth_X6_sortedAt
set_option maxRecDepth 20000 in
theorem ggX8_kth_X6_timesOf : GoodIn wsX8_kth wsX6_timesOf := goodIn_r _ [28, 29, 30, 31, 12, 32, 14, 69, 70, 71] rfl (by decide +kernel)
set_option maxRecDepth 20000 in
theorem gX8_kth_X6_timesOf : GoodIn wsX8_kth (wsV RX8 172 RX6 yX6_timesOf wsX6_timesOf) := goodIn_app (goodIn_r _ [37, 26, 27, 12] rfl (by decide +kernel)) ggX8_kth_X6_timesOf
set_option maxRecDepth 20000 in
theorem ggX8_kth_X8_nextPlaceOf : GoodIn wsX8_kth wsX8_nextPlaceOf := goodIn_r _ [41, 8, 2, 58, 59, 60, 61, 62, 63, 64, 65, 66, 67, 68] rfl (by decide +kernel)
set_option maxRecDepth 20000 in
theorem gX8_kth_X8_nextPlaceOf : GoodIn wsX8_kth (wsV RX8 175 RX8 yX8_nextPlaceOf wsX8_nextPlaceOf) := goodIn_app (goodIn_r _ [38, 39, 40, 6] rfl (by decide +kernel)) ggX8_kth_X8_nextPlaceOf
set_option maxRecDepth 20000 in
theorem ggX8_kth_X8_tell_ : GoodIn wsX8_kth wsX8_tell_ := goodIn_r _ [45, 46, 47, 48, 49, 50, 51, 52, 53, 54, 55, 56, 57, 58, 59, 60, 61, 62, 63, 64, 65, 66, 67, 68, 72, 73] rfl (by decide +kernel)
set_option maxRecDepth 20000 in
theorem gX8_kth_X8_tell_ : GoodIn wsX8_kth (wsV RX8 135 RX8 yX8_tell_ wsX8_tell_) := goodIn_app (goodIn_r _ [42, 43, 44, 6] rfl (by decide +kernel)) ggX8_kth_X8_tell_
set_option maxRecDepth 20000 in
theorem ggX8_rank_X8_isNumber : GoodIn wsX8_rank wsX8_isNumber := goodIn_r _ [5] rfl (by decide +kernel)
set_option maxRecDepth 20000 in
theorem gX8_rank_X8_isNumber : GoodIn wsX8_rank (va_wsS RX8 108 yX8_isNumber wsX8_isNumber) := goodIn_app (goodIn_r _ [2, 3, 4] rfl (by decide +kernel)) ggX8_rank_X8_isNumber
set_option maxRecDepth 20000 in
theorem ggX8_rank_X8_timesIn : GoodIn wsX8_rank wsX8_timesIn := goodIn_r _ [9, 10, 11, 12, 13, 14, 15, 16, 17, 18, 19, 20, 21] rfl (by decide +kernel)
set_option maxRecDepth 20000 in
theorem gX8_rank_X8_timesIn : GoodIn wsX8_rank (wsV RX8 178 RX8 yX8_timesIn wsX8_timesIn) := goodIn_app (goodIn_r _ [6, 7, 8, 4] rfl (by decide +kernel)) ggX8_rank_X8_timesIn
set_option maxRecDepth 20000 in
theorem ggX8_select_X8_isNumber : GoodIn wsX8_select wsX8_isNumber := goodIn_r _ [6] rfl (by decide +kernel)
set_option maxRecDepth 20000 in
theorem gX8_select_X8_isNumber : GoodIn wsX8_select (va_wsS RX8 108 yX8_isNumber wsX8_isNumber) := goodIn_app (goodIn_r _ [3, 4, 5] rfl (by decide +kernel)) ggX8_select_X8_isNumber
set_option maxRecDepth 20000 in
theorem ggX8_band_X8_isSpan : GoodIn wsX8_band wsX8_isSpan := goodIn_r _ [7, 8, 60, 61, 62, 63, 64, 65, 66, 67, 68, 69, 70] rfl (by decide +kernel)
set_option maxRecDepth 20000 in
theorem gX8_band_X8_isSpan : GoodIn wsX8_band (wsV RX8 122 RX8 yX8_isSpan wsX8_isSpan) := goodIn_app (goodIn_r _ [3, 4, 5, 6] rfl (by decide +kernel)) ggX8_band_X8_isSpan
set_option maxRecDepth 20000 in
theorem ggX8_band_X8_isNumber : GoodIn wsX8_band wsX8_isNumber := goodIn_r _ [11] rfl (by decide +kernel)
set_option maxRecDepth 20000 in
theorem gX8_band_X8_isNumber : GoodIn wsX8_band (va_wsS RX8 108 yX8_isNumber wsX8_isNumber) := goodIn_app (goodIn_r _ [9, 10, 6] rfl (by decide +kernel)) ggX8_band_X8_isNumber
set_option maxRecDepth 20000 in
theorem ggX8_band_X6_take : GoodIn wsX8_band wsX6_take := goodIn_r _ [16, 17, 18, 19, 20, 21, 22, 23, 24, 15, 25, 26, 27, 28, 29, 30, 31, 32, 33, 34, 35, 71, 72, 73] rfl (by decide +kernel)
set_option maxRecDepth 20000 in
theorem gX8_band_X6_take : GoodIn wsX8_band (wsV RX8 164 RX6 yX6_take wsX6_take) := goodIn_app (goodIn_r _ [12, 13, 14, 15] rfl (by decide +kernel)) ggX8_band_X6_take
set_option maxRecDepth 20000 in
theorem ggX8_band_X6_timesOf : GoodIn wsX8_band wsX6_timesOf := goodIn_r _ [31, 32, 33, 34, 15, 35, 17, 71, 72, 73] rfl (by decide +kernel)
set_option maxRecDepth 20000 in
theorem gX8_band_X6_timesOf : GoodIn wsX8_band (wsV RX8 172 RX6 yX6_timesOf wsX6_timesOf) := goodIn_app (goodIn_r _ [36, 29, 30, 15] rfl (by decide +kernel)) ggX8_band_X6_timesOf
set_option maxRecDepth 20000 in
theorem ggX8_band_X6_visitsOfBand : GoodIn wsX8_band wsX6_visitsOfBand := goodIn_r _ [40, 41, 42, 15, 43, 32, 33, 34, 35, 17, 71, 72, 73] rfl (by decide +kernel)
set_option maxRecDepth 20000 in
theorem gX8_band_X6_visitsOfBand : GoodIn wsX8_band (wsV RX8 182 RX6 yX6_visitsOfBand wsX6_visitsOfBand) := goodIn_app (goodIn_r _ [37, 38, 39, 15] rfl (by decide +kernel)) ggX8_band_X6_visitsOfBand
set_option maxRecDepth 20000 in
theorem ggX8_band_X8_tell : GoodIn wsX8_band wsX8_tell := goodIn_r _ [47, 48, 49, 50, 51, 52, 53, 54, 55, 56, 57, 58, 59, 60, 61, 62, 63, 64, 65, 66, 67, 68, 69, 70, 74, 75] rfl (by decide +kernel)
set_option maxRecDepth 20000 in
theorem gX8_band_X8_tell : GoodIn wsX8_band (wsV RX8 114 RX8 yX8_tell wsX8_tell) := goodIn_app (goodIn_r _ [44, 45, 46, 6] rfl (by decide +kernel)) ggX8_band_X8_tell
set_option maxRecDepth 20000 in
theorem ggX8_below_X8_isSpan : GoodIn wsX8_below wsX8_isSpan := goodIn_r _ [7, 8, 50, 51, 52, 53, 54, 55, 56, 57, 58, 59, 60] rfl (by decide +kernel)
set_option maxRecDepth 20000 in
theorem gX8_below_X8_isSpan : GoodIn wsX8_below (wsV RX8 122 RX8 yX8_isSpan wsX8_isSpan) := goodIn_app (goodIn_r _ [3, 4, 5, 6] rfl (by decide +kernel)) ggX8_below_X8_isSpan
set_option maxRecDepth 20000 in
theorem ggX8_below_X6_take : GoodIn wsX8_below wsX6_take := goodIn_r _ [13, 14, 15, 16, 17, 18, 19, 20, 21, 12, 22, 23, 24, 25, 26, 27, 28, 29, 30, 31, 32, 61, 62, 63] rfl (by decide +kernel)
set_option maxRecDepth 20000 in
theorem gX8_below_X6_take : GoodIn wsX8_below (wsV RX8 164 RX6 yX6_take wsX6_take) := goodIn_app (goodIn_r _ [9, 10, 11, 12] rfl (by decide +kernel)) ggX8_below_X6_take
set_option maxRecDepth 20000 in
theorem ggX8_below_X6_timesOf : GoodIn wsX8_below wsX6_timesOf := goodIn_r _ [28, 29, 30, 31, 12, 32, 14, 61, 62, 63] rfl (by decide +kernel)
set_option maxRecDepth 20000 in
theorem gX8_below_X6_timesOf : GoodIn wsX8_below (wsV RX8 172 RX6 yX6_timesOf wsX6_timesOf) := goodIn_app (goodIn_r _ [33, 26, 27, 12] rfl (by decide +kernel)) ggX8_below_X6_timesOf
set_option maxRecDepth 20000 in
theorem ggX8_below_X8_tell : GoodIn wsX8_below wsX8_tell := goodIn_r _ [37, 38, 39, 40, 41, 42, 43, 44, 45, 46, 47, 48, 49, 50, 51, 52, 53, 54, 55, 56, 57, 58, 59, 60, 64, 65] rfl (by decide +kernel)
set_option maxRecDepth 20000 in
theorem gX8_below_X8_tell : GoodIn wsX8_below (wsV RX8 114 RX8 yX8_tell wsX8_tell) := goodIn_app (goodIn_r _ [34, 35, 36, 6] rfl (by decide +kernel)) ggX8_below_X8_tell
set_option maxRecDepth 20000 in
theorem ggX8_above_X8_isSpan : GoodIn wsX8_above wsX8_isSpan := goodIn_r _ [7, 8, 50, 51, 52, 53, 54, 55, 56, 57, 58, 59, 60] rfl (by decide +kernel)
set_option maxRecDepth 20000 in
theorem gX8_above_X8_isSpan : GoodIn wsX8_above (wsV RX8 122 RX8 yX8_isSpan wsX8_isSpan) := goodIn_app (goodIn_r _ [3, 4, 5, 6] rfl (by decide +kernel)) ggX8_above_X8_isSpan
set_option maxRecDepth 20000 in
theorem ggX8_above_X6_take : GoodIn wsX8_above wsX6_take := goodIn_r _ [13, 14, 15, 16, 17, 18, 19, 20, 21, 12, 22, 23, 24, 25, 26, 27, 28, 29, 30, 31, 32, 61, 62, 63] rfl (by decide +kernel)
set_option maxRecDepth 20000 in
theorem gX8_above_X6_take : GoodIn wsX8_above (wsV RX8 164 RX6 yX6_take wsX6_take) := goodIn_app (goodIn_r _ [9, 10, 11, 12] rfl (by decide +kernel)) ggX8_above_X6_take
set_option maxRecDepth 20000 in
theorem ggX8_above_X6_timesOf : GoodIn wsX8_above wsX6_timesOf := goodIn_r _ [28, 29, 30, 31, 12, 32, 14, 61, 62, 63] rfl (by decide +kernel)
set_option maxRecDepth 20000 in
theorem gX8_above_X6_timesOf : GoodIn wsX8_above (wsV RX8 172 RX6 yX6_timesOf wsX6_timesOf) := goodIn_app (goodIn_r _ [33, 26, 27, 12] rfl (by decide +kernel)) ggX8_above_X6_timesOf
set_option maxRecDepth 20000 in
theorem ggX8_above_X8_tell : GoodIn wsX8_above wsX8_tell := goodIn_r _ [37, 38, 39, 40, 41, 42, 43, 44, 45, 46, 47, 48, 49, 50, 51, 52, 53, 54, 55, 56, 57, 58, 59, 60, 64, 65] rfl (by decide +kernel)
set_option maxRecDepth 20000 in
theorem gX8_above_X8_tell : GoodIn wsX8_above (wsV RX8 114 RX8 yX8_tell wsX8_tell) := goodIn_app (goodIn_r _ [34, 35, 36, 6] rfl (by decide +kernel)) ggX8_above_X8_tell
set_option maxRecDepth 20000 in
theorem ggX8_sums_X8_isSpan : GoodIn wsX8_sums wsX8_isSpan := goodIn_r _ [7, 8, 53, 54, 55, 56, 57, 58, 59, 60, 61, 62, 63] rfl (by decide +kernel)
set_option maxRecDepth 20000 in
theorem gX8_sums_X8_isSpan : GoodIn wsX8_sums (wsV RX8 122 RX8 yX8_isSpan wsX8_isSpan) := goodIn_app (goodIn_r _ [3, 4, 5, 6] rfl (by decide +kernel)) ggX8_sums_X8_isSpan
set_option maxRecDepth 20000 in
theorem ggX8_sums_X6_take : GoodIn wsX8_sums wsX6_take := goodIn_r _ [13, 14, 15, 16, 17, 18, 19, 20, 21, 12, 22, 23, 24, 25, 26, 27, 28, 29, 30, 31, 32, 64, 65, 66] rfl (by decide +kernel)
set_option maxRecDepth 20000 in
theorem gX8_sums_X6_take : GoodIn wsX8_sums (wsV RX8 164 RX6 yX6_take wsX6_take) := goodIn_app (goodIn_r _ [9, 10, 11, 12] rfl (by decide +kernel)) ggX8_sums_X6_take
set_option maxRecDepth 20000 in
theorem ggX8_sums_X6_sortedAt : GoodIn wsX8_sums wsX6_sortedAt := goodIn_r _ [36, 23, 24, 64, 65, 66] rfl (by decide +kernel)
set_option maxRecDepth 20000 in
theorem gX8_sums_X6_sortedAt : GoodIn wsX8_sums (wsV RX8 168 RX6 yX6_sortedAt wsX6_sortedAt) := goodIn_app (goodIn_r _ [33, 34, 35, 12] rfl (by decide +kernel)) ggX8_sums_X6_sortedAt
set_option maxRecDepth 20000 in
theorem ggX8_sums_X8_tell : GoodIn wsX8_sums wsX8_tell := goodIn_r _ [40, 41, 42, 43, 44, 45, 46, 47, 48, 49, 50, 51, 52, 53, 54, 55, 56, 57, 58, 59, 60, 61, 62, 63, 67, 68] rfl (by decide +kernel)
set_option maxRecDepth 20000 in
theorem gX8_sums_X8_tell : GoodIn wsX8_sums (wsV RX8 114 RX8 yX8_tell wsX8_tell) := goodIn_app (goodIn_r _ [37, 38, 39, 6] rfl (by decide +kernel)) ggX8_sums_X8_tell
set_option maxRecDepth 20000 in
theorem ggX8_often_X8_isSpan : GoodIn wsX8_often wsX8_isSpan := goodIn_r _ [8, 9, 57, 58, 59, 60, 61, 62, 63, 64, 65, 66, 67] rfl (by decide +kernel)
set_option maxRecDepth 20000 in
theorem gX8_often_X8_isSpan : GoodIn wsX8_often (wsV RX8 122 RX8 yX8_isSpan wsX8_isSpan) := goodIn_app (goodIn_r _ [4, 5, 6, 7] rfl (by decide +kernel)) ggX8_often_X8_isSpan
set_option maxRecDepth 20000 in
theorem ggX8_often_X8_isTimes : GoodIn wsX8_often wsX8_isTimes := goodIn_r _ [12] rfl (by decide +kernel)
set_option maxRecDepth 20000 in
theorem gX8_often_X8_isTimes : GoodIn wsX8_often (va_wsS RX8 185 yX8_isTimes wsX8_isTimes) := goodIn_app (goodIn_r _ [10, 11, 7] rfl (by decide +kernel)) ggX8_often_X8_isTimes
set_option maxRecDepth 20000 in
theorem ggX8_often_X6_take : GoodIn wsX8_often wsX6_take := goodIn_r _ [17, 18, 19, 20, 21, 22, 23, 24, 25, 16, 26, 27, 28, 29, 30, 31, 32, 33, 34, 35, 36, 68, 69, 70] rfl (by decide +kernel)
set_option maxRecDepth 20000 in
theorem gX8_often_X6_take : GoodIn wsX8_often (wsV RX8 164 RX6 yX6_take wsX6_take) := goodIn_app (goodIn_r _ [13, 14, 15, 16] rfl (by decide +kernel)) ggX8_often_X6_take
set_option maxRecDepth 20000 in
theorem ggX8_often_X6_nodesWith : GoodIn wsX8_often wsX6_nodesWith := goodIn_r _ [40, 18, 68, 69, 70] rfl (by decide +kernel)
set_option maxRecDepth 20000 in
theorem gX8_often_X6_nodesWith : GoodIn wsX8_often (wsV RX8 188 RX6 yX6_nodesWith wsX6_nodesWith) := goodIn_app (goodIn_r _ [37, 38, 39, 16] rfl (by decide +kernel)) ggX8_often_X6_nodesWith
set_option maxRecDepth 20000 in
theorem ggX8_often_X8_tell : GoodIn wsX8_often wsX8_tell := goodIn_r _ [44, 3, 45, 46, 47, 48, 49, 50, 51, 52, 53, 54, 55, 57, 58, 59, 60, 61, 62, 63, 64, 65, 66, 67, 71, 72] rfl (by decide +kernel)
set_option maxRecDepth 20000 in
theorem gX8_often_X8_tell : GoodIn wsX8_often (wsV RX8 114 RX8 yX8_tell wsX8_tell) := goodIn_app (goodIn_r _ [41, 42, 43, 7] rfl (by decide +kernel)) ggX8_often_X8_tell
set_option maxRecDepth 20000 in
theorem ggX8_often_X6_timesOf : GoodIn wsX8_often wsX6_timesOf := goodIn_r _ [32, 33, 34, 35, 16, 36, 18, 68, 69, 70] rfl (by decide +kernel)
set_option maxRecDepth 20000 in
theorem gX8_often_X6_timesOf : GoodIn wsX8_often (wsV RX8 172 RX6 yX6_timesOf wsX6_timesOf) := goodIn_app (goodIn_r _ [56, 30, 31, 16] rfl (by decide +kernel)) ggX8_often_X6_timesOf
set_option maxRecDepth 20000 in
theorem ggX8_often_X7_add : GoodIn wsX8_often wsX7_add := goodIn_r _ [54, 50, 55, 71, 72] rfl (by decide +kernel)
set_option maxRecDepth 20000 in
theorem gX8_often_X7_add : GoodIn wsX8_often (wsV RX8 155 RX7 yX7_add wsX7_add) := goodIn_app (goodIn_r _ [51, 52, 53, 48] rfl (by decide +kernel)) ggX8_often_X7_add
set_option maxRecDepth 20000 in
theorem ggX8_mode_X8_isSpan : GoodIn wsX8_mode wsX8_isSpan := goodIn_r _ [7, 8, 50, 51, 52, 53, 54, 55, 56, 57, 58, 59, 60] rfl (by decide +kernel)
set_option maxRecDepth 20000 in
theorem gX8_mode_X8_isSpan : GoodIn wsX8_mode (wsV RX8 122 RX8 yX8_isSpan wsX8_isSpan) := goodIn_app (goodIn_r _ [3, 4, 5, 6] rfl (by decide +kernel)) ggX8_mode_X8_isSpan
set_option maxRecDepth 20000 in
theorem ggX8_mode_X6_take : GoodIn wsX8_mode wsX6_take := goodIn_r _ [13, 14, 15, 16, 17, 18, 19, 20, 21, 12, 22, 23, 24, 25, 26, 27, 28, 29, 30, 31, 32, 61, 62, 63] rfl (by decide +kernel)
set_option maxRecDepth 20000 in
theorem gX8_mode_X6_take : GoodIn wsX8_mode (wsV RX8 164 RX6 yX6_take wsX6_take) := goodIn_app (goodIn_r _ [9, 10, 11, 12] rfl (by decide +kernel)) ggX8_mode_X6_take
set_option maxRecDepth 20000 in
theorem ggX8_mode_X6_timesOf : GoodIn wsX8_mode wsX6_timesOf := goodIn_r _ [28, 29, 30, 31, 12, 32, 14, 61, 62, 63] rfl (by decide +kernel)
set_option maxRecDepth 20000 in
theorem gX8_mode_X6_timesOf : GoodIn wsX8_mode (wsV RX8 172 RX6 yX6_timesOf wsX6_timesOf) := goodIn_app (goodIn_r _ [33, 26, 27, 12] rfl (by decide +kernel)) ggX8_mode_X6_timesOf
set_option maxRecDepth 20000 in
theorem ggX8_mode_X8_tell : GoodIn wsX8_mode wsX8_tell := goodIn_r _ [37, 38, 39, 40, 41, 42, 43, 44, 45, 46, 47, 48, 49, 50, 51, 52, 53, 54, 55, 56, 57, 58, 59, 60, 64, 65] rfl (by decide +kernel)
set_option maxRecDepth 20000 in
theorem gX8_mode_X8_tell : GoodIn wsX8_mode (wsV RX8 114 RX8 yX8_tell wsX8_tell) := goodIn_app (goodIn_r _ [34, 35, 36, 6] rfl (by decide +kernel)) ggX8_mode_X8_tell
set_option maxRecDepth 20000 in
theorem ggX8_across_X8_isSpan : GoodIn wsX8_across wsX8_isSpan := goodIn_r _ [7, 8, 53, 54, 55, 56, 57, 58, 59, 60, 61, 62, 63] rfl (by decide +kernel)
set_option maxRecDepth 20000 in
theorem gX8_across_X8_isSpan : GoodIn wsX8_across (wsV RX8 122 RX8 yX8_isSpan wsX8_isSpan) := goodIn_app (goodIn_r _ [3, 4, 5, 6] rfl (by decide +kernel)) ggX8_across_X8_isSpan
set_option maxRecDepth 20000 in
theorem ggX8_across_X8_isNumber : GoodIn wsX8_across wsX8_isNumber := goodIn_r _ [11] rfl (by decide +kernel)
set_option maxRecDepth 20000 in
theorem gX8_across_X8_isNumber : GoodIn wsX8_across (va_wsS RX8 108 yX8_isNumber wsX8_isNumber) := goodIn_app (goodIn_r _ [9, 10, 6] rfl (by decide +kernel)) ggX8_across_X8_isNumber
set_option maxRecDepth 20000 in
theorem ggX8_across_X6_take : GoodIn wsX8_across wsX6_take := goodIn_r _ [16, 17, 18, 19, 20, 21, 22, 23, 24, 15, 25, 26, 27, 28, 29, 30, 31, 32, 33, 34, 35, 64, 65, 66] rfl (by decide +kernel)
set_option maxRecDepth 20000 in
theorem gX8_across_X6_take : GoodIn wsX8_across (wsV RX8 164 RX6 yX6_take wsX6_take) := goodIn_app (goodIn_r _ [12, 13, 14, 15] rfl (by decide +kernel)) ggX8_across_X6_take
set_option maxRecDepth 20000 in
theorem ggX8_across_X6_timesOf : GoodIn wsX8_across wsX6_timesOf := goodIn_r _ [31, 32, 33, 34, 15, 35, 17, 64, 65, 66] rfl (by decide +kernel)
set_option maxRecDepth 20000 in
theorem gX8_across_X6_timesOf : GoodIn wsX8_across (wsV RX8 172 RX6 yX6_timesOf wsX6_timesOf) := goodIn_app (goodIn_r _ [36, 29, 30, 15] rfl (by decide +kernel)) ggX8_across_X6_timesOf
set_option maxRecDepth 20000 in
theorem ggX8_across_X8_tell : GoodIn wsX8_across wsX8_tell := goodIn_r _ [40, 41, 42, 43, 44, 45, 46, 47, 48, 49, 50, 51, 52, 53, 54, 55, 56, 57, 58, 59, 60, 61, 62, 63, 67, 68] rfl (by decide +kernel)
set_option maxRecDepth 20000 in
theorem gX8_across_X8_tell : GoodIn wsX8_across (wsV RX8 114 RX8 yX8_tell wsX8_tell) := goodIn_app (goodIn_r _ [37, 38, 39, 6] rfl (by decide +kernel)) ggX8_across_X8_tell
set_option maxRecDepth 20000 in
theorem ggX8_turned_X8_isSpan : GoodIn wsX8_turned wsX8_isSpan := goodIn_r _ [6, 7, 24, 25, 26, 27, 28, 29, 30, 31, 32, 33, 34] rfl (by decide +kernel)
set_option maxRecDepth 20000 in
theorem gX8_turned_X8_isSpan : GoodIn wsX8_turned (wsV RX8 122 RX8 yX8_isSpan wsX8_isSpan) := goodIn_app (goodIn_r _ [2, 3, 4, 5] rfl (by decide +kernel)) ggX8_turned_X8_isSpan
set_option maxRecDepth 20000 in
theorem ggX8_turned_X8_tell : GoodIn wsX8_turned wsX8_tell := goodIn_r _ [11, 12, 13, 14, 15, 16, 17, 18, 19, 20, 21, 22, 23, 24, 25, 26, 27, 28, 29, 30, 31, 32, 33, 34, 35, 36] rfl (by decide +kernel)
set_option maxRecDepth 20000 in
theorem gX8_turned_X8_tell : GoodIn wsX8_turned (wsV RX8 114 RX8 yX8_tell wsX8_tell) := goodIn_app (goodIn_r _ [8, 9, 10, 5] rfl (by decide +kernel)) ggX8_turned_X8_tell
set_option maxRecDepth 20000 in
theorem ggX8_spread_X8_isSpan : GoodIn wsX8_spread wsX8_isSpan := goodIn_r _ [8, 9, 46, 47, 48, 49, 50, 51, 52, 53, 54, 55, 56] rfl (by decide +kernel)
set_option maxRecDepth 20000 in
theorem gX8_spread_X8_isSpan : GoodIn wsX8_spread (wsV RX8 122 RX8 yX8_isSpan wsX8_isSpan) := goodIn_app (goodIn_r _ [4, 5, 6, 7] rfl (by decide +kernel)) ggX8_spread_X8_isSpan
