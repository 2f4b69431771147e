set_option maxRecDepth 20000 in
theorem ggX9_reverses_X9_keepsBits : GoodIn wsX9_reverses wsX9_keepsBits := goodIn_r _ [11, 7, 12, 13, 14, 15, 16, 17, 5, 18, 19, 20, 21, 22, 23, 24, 25, 26, 27, 28, 29, 30, 42, 43, 44, 45, 46, 47, 48, 49, 50, 51, 52, 53, 54, 55, 56, 57, 58, 59, 60, 61, 62, 63, 64, 65] rfl (by decide +kernel)
set_option maxRecDepth 20000 in
theorem gX9_reverses_X9_keepsBits : GoodIn wsX9_reverses (wsV RX9 135 RX9 yX9_keepsBits wsX9_keepsBits) := goodIn_app (goodIn_r _ [8, 9, 10, 5] rfl (by decide +kernel)) ggX9_reverses_X9_keepsBits
set_option maxRecDepth 20000 in
theorem ggX9_reverses_X9_exchanges : GoodIn wsX9_reverses wsX9_exchanges := goodIn_r _ [34, 13, 42, 43, 44, 45, 46, 47, 48, 49, 50, 51, 52, 53, 54, 55, 56, 57, 58, 59, 60, 61, 62, 63, 64, 65] rfl (by decide +kernel)
set_option maxRecDepth 20000 in
theorem gX9_reverses_X9_exchanges : GoodIn wsX9_reverses (wsV RX9 146 RX9 yX9_exchanges wsX9_exchanges) := goodIn_app (goodIn_r _ [31, 32, 33, 5] rfl (by decide +kernel)) ggX9_reverses_X9_exchanges
set_option maxRecDepth 20000 in
theorem ggX9_reverses_X9_otherBits : GoodIn wsX9_reverses wsX9_otherBits := goodIn_r _ [38, 7, 12, 13, 14, 15, 16, 17, 5, 18, 19, 20, 21, 22, 23, 24, 25, 26, 27, 28, 29, 30, 39, 40, 41, 42, 43, 44, 45, 46, 47, 48, 49, 50, 51, 52, 53, 54, 55, 56, 57, 58, 59, 60, 61, 62, 63, 64, 65] rfl (by decide +kernel)
set_option maxRecDepth 20000 in
theorem gX9_reverses_X9_otherBits : GoodIn wsX9_reverses (wsV RX9 138 RX9 yX9_otherBits wsX9_otherBits) := goodIn_app (goodIn_r _ [35, 36, 37, 5] rfl (by decide +kernel)) ggX9_reverses_X9_otherBits
set_option maxRecDepth 20000 in
theorem ggX9_level_X9_in : GoodIn wsX9_level wsX9_in := goodIn_r _ [10] rfl (by decide +kernel)
set_option maxRecDepth 20000 in
theorem gX9_level_X9_in : GoodIn wsX9_level (va_wsS RX9 21 yX9_in wsX9_in) := goodIn_app (goodIn_r _ [7, 8, 9] rfl (by decide +kernel)) ggX9_level_X9_in
set_option maxRecDepth 20000 in
theorem ggX9_level_X9_laysLevel : GoodIn wsX9_level wsX9_laysLevel := goodIn_r _ [14, 15, 16, 17, 9, 18, 3, 5, 19, 20, 21, 22, 4, 23, 39, 40, 41, 42, 43, 44, 45, 46, 47, 48, 49, 50, 51, 52, 53, 54, 55, 56, 57, 58, 59, 60, 61, 62] rfl (by decide +kernel)
set_option maxRecDepth 20000 in
theorem gX9_level_X9_laysLevel : GoodIn wsX9_level (wsV RX9 122 RX9 yX9_laysLevel wsX9_laysLevel) := goodIn_app (goodIn_r _ [11, 12, 13, 9] rfl (by decide +kernel)) ggX9_level_X9_laysLevel
set_option maxRecDepth 20000 in
theorem ggX9_level_X9_bitOf : GoodIn wsX9_level wsX9_bitOf := goodIn_r _ [26] rfl (by decide +kernel)
set_option maxRecDepth 20000 in
theorem gX9_level_X9_bitOf : GoodIn wsX9_level (va_wsS RX9 125 yX9_bitOf wsX9_bitOf) := goodIn_app (goodIn_r _ [24, 25, 9] rfl (by decide +kernel)) ggX9_level_X9_bitOf
set_option maxRecDepth 20000 in
theorem ggX9_level_X9_flag : GoodIn wsX9_level wsX9_flag := goodIn_r _ [29] rfl (by decide +kernel)
set_option maxRecDepth 20000 in
theorem gX9_level_X9_flag : GoodIn wsX9_level (va_wsS RX9 31 yX9_flag wsX9_flag) := goodIn_app (goodIn_r _ [27, 28, 9] rfl (by decide +kernel)) ggX9_level_X9_flag
set_option maxRecDepth 20000 in
theorem ggX9_level_X9_enters : GoodIn wsX9_level wsX9_enters := goodIn_r _ [33, 34, 6, 39, 40, 41, 42, 43, 44, 45, 46, 47, 48, 49, 50, 51, 52, 53, 54, 55, 56, 57, 58, 59, 60, 61, 62] rfl (by decide +kernel)
set_option maxRecDepth 20000 in
theorem gX9_level_X9_enters : GoodIn wsX9_level (wsV RX9 142 RX9 yX9_enters wsX9_enters) := goodIn_app (goodIn_r _ [30, 31, 32, 9] rfl (by decide +kernel)) ggX9_level_X9_enters
set_option maxRecDepth 20000 in
theorem ggX9_level_X9_runsOf : GoodIn wsX9_level wsX9_runsOf := goodIn_r _ [38, 3, 4, 5, 27, 28, 9, 29, 39, 40, 41, 42, 43, 44, 45, 46, 47, 48, 49, 50, 51, 52, 53, 54, 55, 56, 57, 58, 59, 60, 61, 62] rfl (by decide +kernel)
set_option maxRecDepth 20000 in
theorem gX9_level_X9_runsOf : GoodIn wsX9_level (wsV RX9 156 RX9 yX9_runsOf wsX9_runsOf) := goodIn_app (goodIn_r _ [35, 36, 37, 9] rfl (by decide +kernel)) ggX9_level_X9_runsOf
set_option maxRecDepth 20000 in
theorem ggX9_spot_X9_in : GoodIn wsX9_spot wsX9_in := goodIn_r _ [9] rfl (by decide +kernel)
set_option maxRecDepth 20000 in
theorem gX9_spot_X9_in : GoodIn wsX9_spot (va_wsS RX9 21 yX9_in wsX9_in) := goodIn_app (goodIn_r _ [6, 7, 8] rfl (by decide +kernel)) ggX9_spot_X9_in
set_option maxRecDepth 20000 in
theorem ggX9_spot_X9_isPlace : GoodIn wsX9_spot wsX9_isPlace := goodIn_r _ [13, 14, 6, 7, 8, 9, 33, 34, 35, 36, 37, 38, 39, 40, 41, 42, 43, 44, 45, 46, 47, 48, 49, 50, 51, 52, 53, 54, 55, 56] rfl (by decide +kernel)
set_option maxRecDepth 20000 in
theorem gX9_spot_X9_isPlace : GoodIn wsX9_spot (wsV RX9 132 RX9 yX9_isPlace wsX9_isPlace) := goodIn_app (goodIn_r _ [10, 11, 12, 8] rfl (by decide +kernel)) ggX9_spot_X9_isPlace
set_option maxRecDepth 20000 in
theorem ggX9_spot_X9_laysLevel : GoodIn wsX9_spot wsX9_laysLevel := goodIn_r _ [18, 19, 20, 21, 8, 22, 14, 3, 23, 24, 25, 26, 5, 27, 33, 34, 35, 36, 37, 38, 39, 40, 41, 42, 43, 44, 45, 46, 47, 48, 49, 50, 51, 52, 53, 54, 55, 56] rfl (by decide +kernel)
set_option maxRecDepth 20000 in
theorem gX9_spot_X9_laysLevel : GoodIn wsX9_spot (wsV RX9 122 RX9 yX9_laysLevel wsX9_laysLevel) := goodIn_app (goodIn_r _ [15, 16, 17, 8] rfl (by decide +kernel)) ggX9_spot_X9_laysLevel
set_option maxRecDepth 20000 in
theorem ggX9_spot_X9_enters : GoodIn wsX9_spot wsX9_enters := goodIn_r _ [31, 32, 4, 33, 34, 35, 36, 37, 38, 39, 40, 41, 42, 43, 44, 45, 46, 47, 48, 49, 50, 51, 52, 53, 54, 55, 56] rfl (by decide +kernel)
set_option maxRecDepth 20000 in
theorem gX9_spot_X9_enters : GoodIn wsX9_spot (wsV RX9 142 RX9 yX9_enters wsX9_enters) := goodIn_app (goodIn_r _ [28, 29, 30, 8] rfl (by decide +kernel)) ggX9_spot_X9_enters
set_option maxRecDepth 20000 in
theorem ggX9_from_X9_in : GoodIn wsX9_from wsX9_in := goodIn_r _ [9] rfl (by decide +kernel)
set_option maxRecDepth 20000 in
theorem gX9_from_X9_in : GoodIn wsX9_from (va_wsS RX9 21 yX9_in wsX9_in) := goodIn_app (goodIn_r _ [6, 7, 8] rfl (by decide +kernel)) ggX9_from_X9_in
set_option maxRecDepth 20000 in
theorem ggX9_from_X9_isPlace : GoodIn wsX9_from wsX9_isPlace := goodIn_r _ [13, 14, 6, 7, 8, 9, 33, 34, 35, 36, 37, 38, 39, 40, 41, 42, 43, 44, 45, 46, 47, 48, 49, 50, 51, 52, 53, 54, 55, 56] rfl (by decide +kernel)
set_option maxRecDepth 20000 in
theorem gX9_from_X9_isPlace : GoodIn wsX9_from (wsV RX9 132 RX9 yX9_isPlace wsX9_isPlace) := goodIn_app (goodIn_r _ [10, 11, 12, 8] rfl (by decide +kernel)) ggX9_from_X9_isPlace
set_option maxRecDepth 20000 in
theorem ggX9_from_X9_laysLevel : GoodIn wsX9_from wsX9_laysLevel := goodIn_r _ [18, 19, 20, 21, 8, 22, 14, 5, 23, 24, 25, 26, 4, 27, 33, 34, 35, 36, 37, 38, 39, 40, 41, 42, 43, 44, 45, 46, 47, 48, 49, 50, 51, 52, 53, 54, 55, 56] rfl (by decide +kernel)
set_option maxRecDepth 20000 in
theorem gX9_from_X9_laysLevel : GoodIn wsX9_from (wsV RX9 122 RX9 yX9_laysLevel wsX9_laysLevel) := goodIn_app (goodIn_r _ [15, 16, 17, 8] rfl (by decide +kernel)) ggX9_from_X9_laysLevel
set_option maxRecDepth 20000 in
theorem ggX9_from_X9_enters : GoodIn wsX9_from wsX9_enters := goodIn_r _ [31, 32, 3, 33, 34, 35, 36, 37, 38, 39, 40, 41, 42, 43, 44, 45, 46, 47, 48, 49, 50, 51, 52, 53, 54, 55, 56] rfl (by decide +kernel)
set_option maxRecDepth 20000 in
theorem gX9_from_X9_enters : GoodIn wsX9_from (wsV RX9 142 RX9 yX9_enters wsX9_enters) := goodIn_app (goodIn_r _ [28, 29, 30, 8] rfl (by decide +kernel)) ggX9_from_X9_enters
set_option maxRecDepth 20000 in
theorem ggX9_runs_X9_begins : GoodIn wsX9_runs wsX9_begins := goodIn_r _ [7, 8, 9, 28, 29, 30, 31, 32, 33, 34, 35, 36, 37, 38, 39, 40, 41, 42, 43, 44, 45, 46, 47, 48, 49, 50, 51] rfl (by decide +kernel)
set_option maxRecDepth 20000 in
theorem gX9_runs_X9_begins : GoodIn wsX9_runs (wsV RX9 115 RX9 yX9_begins wsX9_begins) := goodIn_app (goodIn_r _ [3, 4, 5, 6] rfl (by decide +kernel)) ggX9_runs_X9_begins
set_option maxRecDepth 20000 in
theorem ggX9_runs_X9_runsOf : GoodIn wsX9_runs wsX9_runsOf := goodIn_r _ [13, 8, 14, 9, 15, 16, 6, 17, 28, 29, 30, 31, 32, 33, 34, 35, 36, 37, 38, 39, 40, 41, 42, 43, 44, 45, 46, 47, 48, 49, 50, 51] rfl (by decide +kernel)
set_option maxRecDepth 20000 in
theorem gX9_runs_X9_runsOf : GoodIn wsX9_runs (wsV RX9 156 RX9 yX9_runsOf wsX9_runsOf) := goodIn_app (goodIn_r _ [10, 11, 12, 6] rfl (by decide +kernel)) ggX9_runs_X9_runsOf
set_option maxRecDepth 20000 in
theorem ggX9_runs_X9_enters : GoodIn wsX9_runs wsX9_enters := goodIn_r _ [21, 22, 2, 28, 29, 30, 31, 32, 33, 34, 35, 36, 37, 38, 39, 40, 41, 42, 43, 44, 45, 46, 47, 48, 49, 50, 51] rfl (by decide +kernel)
set_option maxRecDepth 20000 in
theorem gX9_runs_X9_enters : GoodIn wsX9_runs (wsV RX9 142 RX9 yX9_enters wsX9_enters) := goodIn_app (goodIn_r _ [18, 19, 20, 6] rfl (by decide +kernel)) ggX9_runs_X9_enters
set_option maxRecDepth 20000 in
theorem ggX9_runs_X9_parts : GoodIn wsX9_runs wsX9_parts := goodIn_r _ [26, 8, 14, 9, 27, 28, 29, 30, 31, 32, 33, 34, 35, 36, 37, 38, 39, 40, 41, 42, 43, 44, 45, 46, 47, 48, 49, 50, 51] rfl (by decide +kernel)
set_option maxRecDepth 20000 in
theorem gX9_runs_X9_parts : GoodIn wsX9_runs (wsV RX9 118 RX9 yX9_parts wsX9_parts) := goodIn_app (goodIn_r _ [23, 24, 25, 6] rfl (by decide +kernel)) ggX9_runs_X9_parts
set_option maxRecDepth 20000 in
theorem ggX9_triesBits_X9_runsOf : GoodIn wsX9_triesBits wsX9_runsOf := goodIn_r _ [11, 4, 12, 6, 13, 14, 10, 15, 24, 25, 26, 27, 28, 29, 30, 31, 32, 33, 34, 35, 36, 37, 38, 39, 40, 41, 42, 43, 44, 45, 46, 47] rfl (by decide +kernel)
set_option maxRecDepth 20000 in
theorem gX9_triesBits_X9_runsOf : GoodIn wsX9_triesBits (wsV RX9 156 RX9 yX9_runsOf wsX9_runsOf) := goodIn_app (goodIn_r _ [7, 8, 9, 10] rfl (by decide +kernel)) ggX9_triesBits_X9_runsOf
set_option maxRecDepth 20000 in
theorem ggX9_triesBits_X9_parts : GoodIn wsX9_triesBits wsX9_parts := goodIn_r _ [19, 4, 12, 6, 20, 24, 25, 26, 27, 28, 29, 30, 31, 32, 33, 34, 35, 36, 37, 38, 39, 40, 41, 42, 43, 44, 45, 46, 47] rfl (by decide +kernel)
set_option maxRecDepth 20000 in
theorem gX9_triesBits_X9_parts : GoodIn wsX9_triesBits (wsV RX9 118 RX9 yX9_parts wsX9_parts) := goodIn_app (goodIn_r _ [16, 17, 18, 10] rfl (by decide +kernel)) ggX9_triesBits_X9_parts
set_option maxRecDepth 20000 in
theorem ggX9_triesBits_X9_triesBits : GoodIn wsX9_triesBits wsX9_triesBits := goodIn_r _ [0, 1, 2, 3, 4, 5, 6, 7, 8, 9, 10, 11, 12, 13, 14, 15, 16, 17, 18, 19, 20, 21, 22, 23, 24, 25, 26, 27, 28, 29, 30, 31, 32, 33, 34, 35, 36, 37, 38, 39, 40, 41, 42, 43, 44, 45, 46, 47] rfl (by decide +kernel)
set_option maxRecDepth 20000 in
theorem gX9_triesBits_X9_triesBits : GoodIn wsX9_triesBits (wsV RX9 165 RX9 yX9_triesBits wsX9_triesBits) := goodIn_app (goodIn_r _ [21, 22, 23, 10] rfl (by decide +kernel)) ggX9_triesBits_X9_triesBits
set_option maxRecDepth 20000 in
theorem ggX9_thrift_X9_begins : GoodIn wsX9_thrift wsX9_begins := goodIn_r _ [9, 10, 11, 36, 37, 38, 39, 40, 41, 42, 43, 44, 45, 46, 47, 48, 49, 50, 51, 52, 53, 54, 55, 56, 57, 58, 59] rfl (by decide +kernel)
set_option maxRecDepth 20000 in
theorem gX9_thrift_X9_begins : GoodIn wsX9_thrift (wsV RX9 115 RX9 yX9_begins wsX9_begins) := goodIn_app (goodIn_r _ [5, 6, 7, 8] rfl (by decide +kernel)) ggX9_thrift_X9_begins
set_option maxRecDepth 20000 in
theorem ggX9_thrift_X9_triesBits : GoodIn wsX9_thrift wsX9_triesBits := goodIn_r _ [15, 2, 4, 16, 10, 17, 11, 18, 19, 20, 8, 21, 22, 23, 24, 25, 26, 27, 28, 29, 30, 12, 13, 14, 36, 37, 38, 39, 40, 41, 42, 43, 44, 45, 46, 47, 48, 49, 50, 51, 52, 53, 54, 55, 56, 57, 58, 59] rfl (by decide +kernel)
set_option maxRecDepth 20000 in
theorem gX9_thrift_X9_triesBits : GoodIn wsX9_thrift (wsV RX9 165 RX9 yX9_triesBits wsX9_triesBits) := goodIn_app (goodIn_r _ [12, 13, 14, 8] rfl (by decide +kernel)) ggX9_thrift_X9_triesBits
set_option maxRecDepth 20000 in
theorem ggX9_thrift_X9_enters : GoodIn wsX9_thrift wsX9_enters := goodIn_r _ [34, 35, 3, 36, 37, 38, 39, 40, 41, 42, 43, 44, 45, 46, 47, 48, 49, 50, 51, 52, 53, 54, 55, 56, 57, 58, 59] rfl (by decide +kernel)
set_option maxRecDepth 20000 in
theorem gX9_thrift_X9_enters : GoodIn wsX9_thrift (wsV RX9 142 RX9 yX9_enters wsX9_enters) := goodIn_app (goodIn_r _ [31, 32, 33, 8] rfl (by decide +kernel)) ggX9_thrift_X9_enters
set_option maxRecDepth 20000 in
theorem ggX9_sorts_X9_counts : GoodIn wsX9_sorts wsX9_counts := goodIn_r _ [7, 8, 9, 14, 15, 16, 17, 18, 19, 20, 21, 22, 23, 24, 25, 26, 27, 28, 29, 30, 31, 32, 33, 34, 35, 36, 37] rfl (by decide +kernel)
set_option maxRecDepth 20000 in
theorem gX9_sorts_X9_counts : GoodIn wsX9_sorts (wsV RX9 169 RX9 yX9_counts wsX9_counts) := goodIn_app (goodIn_r _ [3, 4, 5, 6] rfl (by decide +kernel)) ggX9_sorts_X9_counts
set_option maxRecDepth 20000 in
theorem ggX9_sorts_X9_times : GoodIn wsX9_sorts wsX9_times := goodIn_r _ [13, 8, 14, 15, 16, 17, 18, 19, 20, 21, 22, 23, 24, 25, 26, 27, 28, 29, 30, 31, 32, 33, 34, 35, 36, 37] rfl (by decide +kernel)
set_option maxRecDepth 20000 in
theorem gX9_sorts_X9_times : GoodIn wsX9_sorts (wsV RX9 175 RX9 yX9_times wsX9_times) := goodIn_app (goodIn_r _ [10, 11, 12, 6] rfl (by decide +kernel)) ggX9_sorts_X9_times
set_option maxRecDepth 20000 in
theorem ggX9_kth_X9_isSpan : GoodIn wsX9_kth wsX9_isSpan := goodIn_r _ [9, 10, 30, 31, 32, 33, 34, 35, 36, 37, 38, 39, 40, 41, 42, 43, 44, 45, 46, 47, 48, 49, 50, 51, 52, 53] rfl (by decide +kernel)
set_option maxRecDepth 20000 in
theorem gX9_kth_X9_isSpan : GoodIn wsX9_kth (wsV RX9 150 RX9 yX9_isSpan wsX9_isSpan) := goodIn_app (goodIn_r _ [5, 6, 7, 8] rfl (by decide +kernel)) ggX9_kth_X9_isSpan
set_option maxRecDepth 20000 in
theorem ggX9_kth_X9_sorts : GoodIn wsX9_kth wsX9_sorts := goodIn_r _ [14, 15, 2, 16, 17, 18, 8, 19, 20, 3, 21, 22, 23, 24, 30, 31, 32, 33, 34, 35, 36, 37, 38, 39, 40, 41, 42, 43, 44, 45, 46, 47, 48, 49, 50, 51, 52, 53] rfl (by decide +kernel)
set_option maxRecDepth 20000 in
theorem gX9_kth_X9_sorts : GoodIn wsX9_kth (wsV RX9 178 RX9 yX9_sorts wsX9_sorts) := goodIn_app (goodIn_r _ [11, 12, 13, 8] rfl (by decide +kernel)) ggX9_kth_X9_sorts
set_option maxRecDepth 20000 in
theorem ggX9_kth_X9_times : GoodIn wsX9_kth wsX9_times := goodIn_r _ [24, 20, 30, 31, 32, 33, 34, 35, 36, 37, 38, 39, 40, 41, 42, 43, 44, 45, 46, 47, 48, 49, 50, 51, 52, 53] rfl (by decide +kernel)
set_option maxRecDepth 20000 in
theorem gX9_kth_X9_times : GoodIn wsX9_kth (wsV RX9 175 RX9 yX9_times wsX9_times) := goodIn_app (goodIn_r _ [21, 22, 23, 8] rfl (by decide +kernel)) ggX9_kth_X9_times
set_option maxRecDepth 20000 in
theorem ggX9_kth_X9_enters : GoodIn wsX9_kth wsX9_enters := goodIn_r _ [28, 29, 4, 30, 31, 32, 33, 34, 35, 36, 37, 38, 39, 40, 41, 42, 43, 44, 45, 46, 47, 48, 49, 50, 51, 52, 53] rfl (by decide +kernel)
set_option maxRecDepth 20000 in
theorem gX9_kth_X9_enters : GoodIn wsX9_kth (wsV RX9 142 RX9 yX9_enters wsX9_enters) := goodIn_app (goodIn_r _ [25, 26, 27, 8] rfl (by decide +kernel)) ggX9_kth_X9_enters
set_option maxRecDepth 20000 in
theorem ggX9_rank_X9_isNumber : GoodIn wsX9_rank wsX9_isNumber := goodIn_r _ [6, 7, 8, 9, 5, 10] rfl (by decide +kernel)
set_option maxRecDepth 20000 in
theorem gX9_rank_X9_isNumber : GoodIn wsX9_rank (va_wsS RX9 129 yX9_isNumber wsX9_isNumber) := goodIn_app (goodIn_r _ [3, 4, 5] rfl (by decide +kernel)) ggX9_rank_X9_isNumber
set_option maxRecDepth 20000 in
theorem ggX9_rank_X9_in : GoodIn wsX9_rank wsX9_in := goodIn_r _ [10] rfl (by decide +kernel)
set_option maxRecDepth 20000 in
theorem gX9_rank_X9_in : GoodIn wsX9_rank (va_wsS RX9 21 yX9_in wsX9_in) := goodIn_app (goodIn_r _ [8, 9, 5] rfl (by decide +kernel)) ggX9_rank_X9_in
set_option maxRecDepth 20000 in
theorem ggX9_rank_X9_counts : GoodIn wsX9_rank wsX9_counts := goodIn_r _ [14, 15, 16, 21, 22, 23, 24, 25, 26, 27, 28, 29, 30, 31, 32, 33, 34, 35, 36, 37, 38, 39, 40, 41, 42, 43, 44] rfl (by decide +kernel)
set_option maxRecDepth 20000 in
theorem gX9_rank_X9_counts : GoodIn wsX9_rank (wsV RX9 169 RX9 yX9_counts wsX9_counts) := goodIn_app (goodIn_r _ [11, 12, 13, 5] rfl (by decide +kernel)) ggX9_rank_X9_counts
set_option maxRecDepth 20000 in
theorem ggX9_rank_X9_times : GoodIn wsX9_rank wsX9_times := goodIn_r _ [20, 15, 21, 22, 23, 24, 25, 26, 27, 28, 29, 30, 31, 32, 33, 34, 35, 36, 37, 38, 39, 40, 41, 42, 43, 44] rfl (by decide +kernel)
set_option maxRecDepth 20000 in
theorem gX9_rank_X9_times : GoodIn wsX9_rank (wsV RX9 175 RX9 yX9_times wsX9_times) := goodIn_app (goodIn_r _ [17, 18, 19, 5] rfl (by decide +kernel)) ggX9_rank_X9_times
set_option maxRecDepth 20000 in
theorem ggX9_select_X9_isNumber : GoodIn wsX9_select wsX9_isNumber := goodIn_r _ [7, 8, 9, 10, 6, 11] rfl (by decide +kernel)
set_option maxRecDepth 20000 in
theorem gX9_select_X9_isNumber : GoodIn wsX9_select (va_wsS RX9 129 yX9_isNumber wsX9_isNumber) := goodIn_app (goodIn_r _ [4, 5, 6] rfl (by decide +kernel)) ggX9_select_X9_isNumber
set_option maxRecDepth 20000 in
theorem ggX9_within_X9_times : GoodIn wsX9_within wsX9_times := goodIn_r _ [12, 13, 14, 15, 16, 17, 18, 19, 20, 21, 22, 23, 24, 25, 26, 27, 28, 29, 30, 31, 32, 33, 34, 35, 36, 37] rfl (by decide +kernel)
set_option maxRecDepth 20000 in
theorem gX9_within_X9_times : GoodIn wsX9_within (wsV RX9 175 RX9 yX9_times wsX9_times) := goodIn_app (goodIn_r _ [8, 9, 10, 11] rfl (by decide +kernel)) ggX9_within_X9_times
set_option maxRecDepth 20000 in
theorem ggX9_visits_X9_within : GoodIn wsX9_visits wsX9_within := goodIn_r _ [5, 6, 7, 8, 9, 10, 11, 12, 13, 14, 15, 4, 16, 17, 21, 22, 23, 24, 25, 26, 27, 28, 29, 30, 31, 32, 33, 34, 35, 36, 37, 38, 39, 40, 41, 42, 43, 44] rfl (by decide +kernel)
set_option maxRecDepth 20000 in
theorem gX9_visits_X9_within : GoodIn wsX9_visits (wsV RX9 189 RX9 yX9_within wsX9_within) := goodIn_app (goodIn_r _ [1, 2, 3, 4] rfl (by decide +kernel)) ggX9_visits_X9_within
set_option maxRecDepth 20000 in
theorem ggX9_visits_X9_visits : GoodIn wsX9_visits wsX9_visits := goodIn_r _ [0, 1, 2, 3, 4, 5, 6, 7, 8, 9, 10, 11, 12, 13, 14, 15, 16, 17, 18, 19, 20, 21, 22, 23, 24, 25, 26, 27, 28, 29, 30, 31, 32, 33, 34, 35, 36, 37, 38, 39, 40, 41, 42, 43, 44] rfl (by decide +kernel)
set_option maxRecDepth 20000 in
theorem gX9_visits_X9_visits : GoodIn wsX9_visits (wsV RX9 192 RX9 yX9_visits wsX9_visits) := goodIn_app (goodIn_r _ [18, 19, 20, 4] rfl (by decide +kernel)) ggX9_visits_X9_visits
set_option maxRecDepth 20000 in
theorem ggX9_band_X9_isSpan : GoodIn wsX9_band wsX9_isSpan := goodIn_r _ [7, 8, 46, 47, 48, 49, 50, 51, 52, 53, 54, 55, 56, 57, 58, 59, 60, 61, 62, 63, 64, 65, 66, 67, 68, 69] rfl (by decide +kernel)
set_option maxRecDepth 20000 in
theorem gX9_band_X9_isSpan : GoodIn wsX9_band (wsV RX9 150 RX9 yX9_isSpan wsX9_isSpan) := goodIn_app (goodIn_r _ [3, 4, 5, 6] rfl (by decide +kernel)) ggX9_band_X9_isSpan
set_option maxRecDepth 20000 in
theorem ggX9_band_X9_isNumber : GoodIn wsX9_band wsX9_isNumber := goodIn_r _ [11, 12, 13, 14, 6, 15] rfl (by decide +kernel)
set_option maxRecDepth 20000 in
theorem gX9_band_X9_isNumber : GoodIn wsX9_band (va_wsS RX9 129 yX9_isNumber wsX9_isNumber) := goodIn_app (goodIn_r _ [9, 10, 6] rfl (by decide +kernel)) ggX9_band_X9_isNumber
set_option maxRecDepth 20000 in
theorem ggX9_band_X9_counts : GoodIn wsX9_band wsX9_counts := goodIn_r _ [19, 20, 21, 46, 47, 48, 49, 50, 51, 52, 53, 54, 55, 56, 57, 58, 59, 60, 61, 62, 63, 64, 65, 66, 67, 68, 69] rfl (by decide +kernel)
set_option maxRecDepth 20000 in
theorem gX9_band_X9_counts : GoodIn wsX9_band (wsV RX9 169 RX9 yX9_counts wsX9_counts) := goodIn_app (goodIn_r _ [16, 17, 18, 6] rfl (by decide +kernel)) ggX9_band_X9_counts
set_option maxRecDepth 20000 in
theorem ggX9_band_X9_visits : GoodIn wsX9_band wsX9_visits := goodIn_r _ [25, 26, 27, 28, 6, 29, 30, 31, 32, 33, 34, 35, 36, 37, 38, 39, 40, 20, 22, 23, 24, 46, 47, 48, 49, 50, 51, 52, 53, 54, 55, 56, 57, 58, 59, 60, 61, 62, 63, 64, 65, 66, 67, 68, 69] rfl (by decide +kernel)
set_option maxRecDepth 20000 in
theorem gX9_band_X9_visits : GoodIn wsX9_band (wsV RX9 192 RX9 yX9_visits wsX9_visits) := goodIn_app (goodIn_r _ [22, 23, 24, 6] rfl (by decide +kernel)) ggX9_band_X9_visits
set_option maxRecDepth 20000 in
theorem ggX9_band_X9_enters : GoodIn wsX9_band wsX9_enters := goodIn_r _ [44, 45, 2, 46, 47, 48, 49, 50, 51, 52, 53, 54, 55, 56, 57, 58, 59, 60, 61, 62, 63, 64, 65, 66, 67, 68, 69] rfl (by decide +kernel)
set_option maxRecDepth 20000 in
theorem gX9_band_X9_enters : GoodIn wsX9_band (wsV RX9 142 RX9 yX9_enters wsX9_enters) := goodIn_app (goodIn_r _ [41, 42, 43, 6] rfl (by decide +kernel)) ggX9_band_X9_enters
set_option maxRecDepth 20000 in
theorem ggX9_band_X9_within : GoodIn wsX9_band wsX9_within := goodIn_r _ [29, 30, 31, 32, 33, 34, 35, 36, 37, 38, 39, 6, 40, 20, 46, 47, 48, 49, 50, 51, 52, 53, 54, 55, 56, 57, 58, 59, 60, 61, 62, 63, 64, 65, 66, 67, 68, 69] rfl (by decide +kernel)
set_option maxRecDepth 20000 in
theorem gX9_band_X9_within : GoodIn wsX9_band (wsV RX9 189 RX9 yX9_within wsX9_within) := goodIn_app (goodIn_r _ [26, 27, 28, 6] rfl (by decide +kernel)) ggX9_band_X9_within
set_option maxRecDepth 20000 in
theorem ggX9_below_X9_isSpan : GoodIn wsX9_below wsX9_isSpan := goodIn_r _ [8, 9, 28, 29, 30, 31, 32, 33, 34, 35, 36, 37, 38, 39, 40, 41, 42, 43, 44, 45, 46, 47, 48, 49, 50, 51] rfl (by decide +kernel)
set_option maxRecDepth 20000 in
theorem gX9_below_X9_isSpan : GoodIn wsX9_below (wsV RX9 150 RX9 yX9_isSpan wsX9_isSpan) := goodIn_app (goodIn_r _ [4, 5, 6, 7] rfl (by decide +kernel)) ggX9_below_X9_isSpan
set_option maxRecDepth 20000 in
theorem ggX9_below_X9_in : GoodIn wsX9_below wsX9_in := goodIn_r _ [12] rfl (by decide +kernel)
set_option maxRecDepth 20000 in
theorem gX9_below_X9_in : GoodIn wsX9_below (va_wsS RX9 21 yX9_in wsX9_in) := goodIn_app (goodIn_r _ [10, 11, 7] rfl (by decide +kernel)) ggX9_below_X9_in
set_option maxRecDepth 20000 in
theorem ggX9_below_X9_counts : GoodIn wsX9_below wsX9_counts := goodIn_r _ [16, 17, 18, 28, 29, 30, 31, 32, 33, 34, 35, 36, 37, 38, 39, 40, 41, 42, 43, 44, 45, 46, 47, 48, 49, 50, 51] rfl (by decide +kernel)
set_option maxRecDepth 20000 in
theorem gX9_below_X9_counts : GoodIn wsX9_below (wsV RX9 169 RX9 yX9_counts wsX9_counts) := goodIn_app (goodIn_r _ [13, 14, 15, 7] rfl (by decide +kernel)) ggX9_below_X9_counts
set_option maxRecDepth 20000 in
theorem ggX9_below_X9_times : GoodIn wsX9_below wsX9_times := goodIn_r _ [22, 17, 28, 29, 30, 31, 32, 33, 34, 35, 36, 37, 38, 39, 40, 41, 42, 43, 44, 45, 46, 47, 48, 49, 50, 51] rfl (by decide +kernel)
set_option maxRecDepth 20000 in
theorem gX9_below_X9_times : GoodIn wsX9_below (wsV RX9 175 RX9 yX9_times wsX9_times) := goodIn_app (goodIn_r _ [19, 20, 21, 7] rfl (by decide +kernel)) ggX9_below_X9_times
set_option maxRecDepth 20000 in
theorem ggX9_below_X9_enters : GoodIn wsX9_below wsX9_enters := goodIn_r _ [26, 27, 3, 28, 29, 30, 31, 32, 33, 34, 35, 36, 37, 38, 39, 40, 41, 42, 43, 44, 45, 46, 47, 48, 49, 50, 51] rfl (by decide +kernel)
set_option maxRecDepth 20000 in
theorem gX9_below_X9_enters : GoodIn wsX9_below (wsV RX9 142 RX9 yX9_enters wsX9_enters) := goodIn_app (goodIn_r _ [23, 24, 25, 7] rfl (by decide +kernel)) ggX9_below_X9_enters
set_option maxRecDepth 20000 in
theorem ggX9_above_X9_isSpan : GoodIn wsX9_above wsX9_isSpan := goodIn_r _ [9, 10, 29, 30, 31, 32, 33, 34, 35, 36, 37, 38, 39, 40, 41, 42, 43, 44, 45, 46, 47, 48, 49, 50, 51, 52] rfl (by decide +kernel)
set_option maxRecDepth 20000 in
theorem gX9_above_X9_isSpan : GoodIn wsX9_above (wsV RX9 150 RX9 yX9_isSpan wsX9_isSpan) := goodIn_app (goodIn_r _ [5, 6, 7, 8] rfl (by decide +kernel)) ggX9_above_X9_isSpan
set_option maxRecDepth 20000 in
theorem ggX9_above_X9_in : GoodIn wsX9_above wsX9_in := goodIn_r _ [13] rfl (by decide +kernel)
set_option maxRecDepth 20000 in
theorem gX9_above_X9_in : GoodIn wsX9_above (va_wsS RX9 21 yX9_in wsX9_in) := goodIn_app (goodIn_r _ [11, 12, 8] rfl (by decide +kernel)) ggX9_above_X9_in
set_option maxRecDepth 20000 in
theorem ggX9_above_X9_counts : GoodIn wsX9_above wsX9_counts := goodIn_r _ [17, 18, 19, 29, 30, 31, 32, 33, 34, 35, 36, 37, 38, 39, 40, 41, 42, 43, 44, 45, 46, 47, 48, 49, 50, 51, 52] rfl (by decide +kernel)
set_option maxRecDepth 20000 in
theorem gX9_above_X9_counts : GoodIn wsX9_above (wsV RX9 169 RX9 yX9_counts wsX9_counts) := goodIn_app (goodIn_r _ [14, 15, 16, 8] rfl (by decide +kernel)) ggX9_above_X9_counts
set_option maxRecDepth 20000 in
theorem ggX9_above_X9_times : GoodIn wsX9_above wsX9_times := goodIn_r _ [23, 18, 29, 30, 31, 32, 33, 34, 35, 36, 37, 38, 39, 40, 41, 42, 43, 44, 45, 46, 47, 48, 49, 50, 51, 52] rfl (by decide +kernel)
set_option maxRecDepth 20000 in
theorem gX9_above_X9_times : GoodIn wsX9_above (wsV RX9 175 RX9 yX9_times wsX9_times) := goodIn_app (goodIn_r _ [20, 21, 22, 8] rfl (by decide +kernel)) ggX9_above_X9_times
set_option maxRecDepth 20000 in
theorem ggX9_above_X9_enters : GoodIn wsX9_above wsX9_enters := goodIn_r _ [27, 28, 4, 29, 30, 31, 32, 33, 34, 35, 36, 37, 38, 39, 40, 41, 42, 43, 44, 45, 46, 47, 48, 49, 50, 51, 52] rfl (by decide +kernel)
set_option maxRecDepth 20000 in
theorem gX9_above_X9_enters : GoodIn wsX9_above (wsV RX9 142 RX9 yX9_enters wsX9_enters) := goodIn_app (goodIn_r _ [24, 25, 26, 8] rfl (by decide +kernel)) ggX9_above_X9_enters
set_option maxRecDepth 20000 in
theorem ggX9_sums_X9_isSpan : GoodIn wsX9_sums wsX9_isSpan := goodIn_r _ [9, 10, 30, 31, 32, 33, 34, 35, 36, 37, 38, 39, 40, 41, 42, 43, 44, 45, 46, 47, 48, 49, 50, 51, 52, 53] rfl (by decide +kernel)
set_option maxRecDepth 20000 in
theorem gX9_sums_X9_isSpan : GoodIn wsX9_sums (wsV RX9 150 RX9 yX9_isSpan wsX9_isSpan) := goodIn_app (goodIn_r _ [5, 6, 7, 8] rfl (by decide +kernel)) ggX9_sums_X9_isSpan
set_option maxRecDepth 20000 in
theorem ggX9_sums_X9_sorts : GoodIn wsX9_sums wsX9_sorts := goodIn_r _ [14, 3, 2, 15, 16, 17, 8, 18, 19, 20, 21, 22, 23, 24, 30, 31, 32, 33, 34, 35, 36, 37, 38, 39, 40, 41, 42, 43, 44, 45, 46, 47, 48, 49, 50, 51, 52, 53] rfl (by decide +kernel)
set_option maxRecDepth 20000 in
theorem gX9_sums_X9_sorts : GoodIn wsX9_sums (wsV RX9 178 RX9 yX9_sorts wsX9_sorts) := goodIn_app (goodIn_r _ [11, 12, 13, 8] rfl (by decide +kernel)) ggX9_sums_X9_sorts
set_option maxRecDepth 20000 in
theorem ggX9_sums_X9_enters : GoodIn wsX9_sums wsX9_enters := goodIn_r _ [28, 29, 4, 30, 31, 32, 33, 34, 35, 36, 37, 38, 39, 40, 41, 42, 43, 44, 45, 46, 47, 48, 49, 50, 51, 52, 53] rfl (by decide +kernel)
set_option maxRecDepth 20000 in
theorem gX9_sums_X9_enters : GoodIn wsX9_sums (wsV RX9 142 RX9 yX9_enters wsX9_enters) := goodIn_app (goodIn_r _ [25, 26, 27, 8] rfl (by decide +kernel)) ggX9_sums_X9_enters
set_option maxRecDepth 20000 in
theorem ggX9_nodes_X9_within : GoodIn wsX9_nodes wsX9_within := goodIn_r _ [5, 6, 7, 8, 9, 10, 11, 12, 13, 14, 15, 4, 16, 17, 21, 22, 23, 24, 25, 26, 27, 28, 29, 30, 31, 32, 33, 34, 35, 36, 37, 38, 39, 40, 41, 42, 43, 44] rfl (by decide +kernel)
set_option maxRecDepth 20000 in
theorem gX9_nodes_X9_within : GoodIn wsX9_nodes (wsV RX9 189 RX9 yX9_within wsX9_within) := goodIn_app (goodIn_r _ [1, 2, 3, 4] rfl (by decide +kernel)) ggX9_nodes_X9_within
set_option maxRecDepth 20000 in
theorem ggX9_nodes_X9_flag : GoodIn wsX9_nodes wsX9_flag := goodIn_r _ [20] rfl (by decide +kernel)
set_option maxRecDepth 20000 in
theorem gX9_nodes_X9_flag : GoodIn wsX9_nodes (va_wsS RX9 31 yX9_flag wsX9_flag) := goodIn_app (goodIn_r _ [18, 19, 4] rfl (by decide +kernel)) ggX9_nodes_X9_flag
set_option maxRecDepth 20000 in
theorem ggX9_often_X9_isSpan : GoodIn wsX9_often wsX9_isSpan := goodIn_r _ [8, 9, 46, 47, 48, 49, 50, 51, 52, 53, 54, 55, 56, 57, 58, 59, 60, 61, 62, 63, 64, 65, 66, 67, 68, 69] rfl (by decide +kernel)
set_option maxRecDepth 20000 in
theorem gX9_often_X9_isSpan : GoodIn wsX9_often (wsV RX9 150 RX9 yX9_isSpan wsX9_isSpan) := goodIn_app (goodIn_r _ [4, 5, 6, 7] rfl (by decide +kernel)) ggX9_often_X9_isSpan
set_option maxRecDepth 20000 in
theorem ggX9_often_X9_in : GoodIn wsX9_often wsX9_in := goodIn_r _ [12] rfl (by decide +kernel)
set_option maxRecDepth 20000 in
theorem gX9_often_X9_in : GoodIn wsX9_often (va_wsS RX9 21 yX9_in wsX9_in) := goodIn_app (goodIn_r _ [10, 11, 7] rfl (by decide +kernel)) ggX9_often_X9_in
set_option maxRecDepth 20000 in
theorem ggX9_often_X9_counts : GoodIn wsX9_often wsX9_counts := goodIn_r _ [16, 17, 18, 46, 47, 48, 49, 50, 51, 52, 53, 54, 55, 56, 57, 58, 59, 60, 61, 62, 63, 64, 65, 66, 67, 68, 69] rfl (by decide +kernel)
set_option maxRecDepth 20000 in
theorem gX9_often_X9_counts : GoodIn wsX9_often (wsV RX9 169 RX9 yX9_counts wsX9_counts) := goodIn_app (goodIn_r _ [13, 14, 15, 7] rfl (by decide +kernel)) ggX9_often_X9_counts
set_option maxRecDepth 20000 in
theorem ggX9_often_X9_nodes : GoodIn wsX9_often wsX9_nodes := goodIn_r _ [22, 23, 24, 25, 7, 26, 27, 28, 29, 30, 31, 32, 33, 34, 35, 36, 37, 17, 38, 39, 40, 46, 47, 48, 49, 50, 51, 52, 53, 54, 55, 56, 57, 58, 59, 60, 61, 62, 63, 64, 65, 66, 67, 68, 69] rfl (by decide +kernel)
set_option maxRecDepth 20000 in
theorem gX9_often_X9_nodes : GoodIn wsX9_often (wsV RX9 204 RX9 yX9_nodes wsX9_nodes) := goodIn_app (goodIn_r _ [19, 20, 21, 7] rfl (by decide +kernel)) ggX9_often_X9_nodes
set_option maxRecDepth 20000 in
theorem ggX9_often_X9_enters : GoodIn wsX9_often wsX9_enters := goodIn_r _ [44, 45, 3, 46, 47, 48, 49, 50, 51, 52, 53, 54, 55, 56, 57, 58, 59, 60, 61, 62, 63, 64, 65, 66, 67, 68, 69] rfl (by decide +kernel)
set_option maxRecDepth 20000 in
theorem gX9_often_X9_enters : GoodIn wsX9_often (wsV RX9 142 RX9 yX9_enters wsX9_enters) := goodIn_app (goodIn_r _ [41, 42, 43, 7] rfl (by decide +kernel)) ggX9_often_X9_enters
set_option maxRecDepth 20000 in
theorem ggX9_often_X9_times : GoodIn wsX9_often wsX9_times := goodIn_r _ [37, 17, 46, 47, 48, 49, 50, 51, 52, 53, 54, 55, 56, 57, 58, 59, 60, 61, 62, 63, 64, 65, 66, 67, 68, 69] rfl (by decide +kernel)
set_option maxRecDepth 20000 in
theorem gX9_often_X9_times : GoodIn wsX9_often (wsV RX9 175 RX9 yX9_times wsX9_times) := goodIn_app (goodIn_r _ [34, 35, 36, 7] rfl (by decide +kernel)) ggX9_often_X9_times
set_option maxRecDepth 20000 in
theorem ggX9_mode_X9_isSpan : GoodIn wsX9_mode wsX9_isSpan := goodIn_r _ [7, 8, 24, 25, 26, 27, 28, 29, 30, 31, 32, 33, 34, 35, 36, 37, 38, 39, 40, 41, 42, 43, 44, 45, 46, 47] rfl (by decide +kernel)
set_option maxRecDepth 20000 in
theorem gX9_mode_X9_isSpan : GoodIn wsX9_mode (wsV RX9 150 RX9 yX9_isSpan wsX9_isSpan) := goodIn_app (goodIn_r _ [3, 4, 5, 6] rfl (by decide +kernel)) ggX9_mode_X9_isSpan
set_option maxRecDepth 20000 in
theorem ggX9_mode_X9_counts : GoodIn wsX9_mode wsX9_counts := goodIn_r _ [12, 13, 14, 24, 25, 26, 27, 28, 29, 30, 31, 32, 33, 34, 35, 36, 37, 38, 39, 40, 41, 42, 43, 44, 45, 46, 47] rfl (by decide +kernel)
set_option maxRecDepth 20000 in
theorem gX9_mode_X9_counts : GoodIn wsX9_mode (wsV RX9 169 RX9 yX9_counts wsX9_counts) := goodIn_app (goodIn_r _ [9, 10, 11, 6] rfl (by decide +kernel)) ggX9_mode_X9_counts
set_option maxRecDepth 20000 in
theorem ggX9_mode_X9_times : GoodIn wsX9_mode wsX9_times := goodIn_r _ [18, 13, 24, 25, 26, 27, 28, 29, 30, 31, 32, 33, 34, 35, 36, 37, 38, 39, 40, 41, 42, 43, 44, 45, 46, 47] rfl (by decide +kernel)
set_option maxRecDepth 20000 in
theorem gX9_mode_X9_times : GoodIn wsX9_mode (wsV RX9 175 RX9 yX9_times wsX9_times) := goodIn_app (goodIn_r _ [15, 16, 17, 6] rfl (by decide +kernel)) ggX9_mode_X9_times
set_option maxRecDepth 20000 in
theorem ggX9_mode_X9_enters : GoodIn wsX9_mode wsX9_enters := goodIn_r _ [22, 23, 2, 24, 25, 26, 27, 28, 29, 30, 31, 32, 33, 34, 35, 36, 37, 38, 39, 40, 41, 42, 43, 44, 45, 46, 47] rfl (by decide +kernel)
set_option maxRecDepth 20000 in
theorem gX9_mode_X9_enters : GoodIn wsX9_mode (wsV RX9 142 RX9 yX9_enters wsX9_enters) := goodIn_app (goodIn_r _ [19, 20, 21, 6] rfl (by decide +kernel)) ggX9_mode_X9_enters
set_option maxRecDepth 20000 in
theorem ggX9_across_X9_isSpan : GoodIn wsX9_across wsX9_isSpan := goodIn_r _ [7, 8, 31, 32, 33, 34, 35, 36, 37, 38, 39, 40, 41, 42, 43, 44, 45, 46, 47, 48, 49, 50, 51, 52, 53, 54] rfl (by decide +kernel)
set_option maxRecDepth 20000 in
theorem gX9_across_X9_isSpan : GoodIn wsX9_across (wsV RX9 150 RX9 yX9_isSpan wsX9_isSpan) := goodIn_app (goodIn_r _ [3, 4, 5, 6] rfl (by decide +kernel)) ggX9_across_X9_isSpan
set_option maxRecDepth 20000 in
theorem ggX9_across_X9_isNumber : GoodIn wsX9_across wsX9_isNumber := goodIn_r _ [11, 12, 13, 14, 6, 15] rfl (by decide +kernel)
set_option maxRecDepth 20000 in
theorem gX9_across_X9_isNumber : GoodIn wsX9_across (va_wsS RX9 129 yX9_isNumber wsX9_isNumber) := goodIn_app (goodIn_r _ [9, 10, 6] rfl (by decide +kernel)) ggX9_across_X9_isNumber
set_option maxRecDepth 20000 in
theorem ggX9_across_X9_counts : GoodIn wsX9_across wsX9_counts := goodIn_r _ [19, 20, 21, 31, 32, 33, 34, 35, 36, 37, 38, 39, 40, 41, 42, 43, 44, 45, 46, 47, 48, 49, 50, 51, 52, 53, 54] rfl (by decide +kernel)
set_option maxRecDepth 20000 in
theorem gX9_across_X9_counts : GoodIn wsX9_across (wsV RX9 169 RX9 yX9_counts wsX9_counts) := goodIn_app (goodIn_r _ [16, 17, 18, 6] rfl (by decide +kernel)) ggX9_across_X9_counts
set_option maxRecDepth 20000 in
theorem ggX9_across_X9_times : GoodIn wsX9_across wsX9_times := goodIn_r _ [25, 20, 31, 32, 33, 34, 35, 36, 37, 38, 39, 40, 41, 42, 43, 44, 45, 46, 47, 48, 49, 50, 51, 52, 53, 54] rfl (by decide +kernel)
set_option maxRecDepth 20000 in
theorem gX9_across_X9_times : GoodIn wsX9_across (wsV RX9 175 RX9 yX9_times wsX9_times) := goodIn_app (goodIn_r _ [22, 23, 24, 6] rfl (by decide +kernel)) ggX9_across_X9_times
set_option maxRecDepth 20000 in
theorem ggX9_across_X9_enters : GoodIn wsX9_across wsX9_enters := goodIn_r _ [29, 30, 2, 31, 32, 33, 34, 35, 36, 37, 38, 39, 40, 41, 42, 43, 44, 45, 46, 47, 48, 49, 50, 51, 52, 53, 54] rfl (by decide +kernel)
set_option maxRecDepth 20000 in
theorem gX9_across_X9_enters : GoodIn wsX9_across (wsV RX9 142 RX9 yX9_enters wsX9_enters) := goodIn_app (goodIn_r _ [26, 27, 28, 6] rfl (by decide +kernel)) ggX9_across_X9_enters
set_option maxRecDepth 20000 in
theorem ggX9_turned_X9_isSpan : GoodIn wsX9_turned wsX9_isSpan := goodIn_r _ [8, 9, 18, 19, 20, 21, 22, 23, 24, 25, 26, 27, 28, 29, 30, 31, 32, 33, 34, 35, 36, 37, 38, 39, 40, 41] rfl (by decide +kernel)
set_option maxRecDepth 20000 in
theorem gX9_turned_X9_isSpan : GoodIn wsX9_turned (wsV RX9 150 RX9 yX9_isSpan wsX9_isSpan) := goodIn_app (goodIn_r _ [4, 5, 6, 7] rfl (by decide +kernel)) ggX9_turned_X9_isSpan
set_option maxRecDepth 20000 in
theorem ggX9_turned_X9_flag : GoodIn wsX9_turned wsX9_flag := goodIn_r _ [12] rfl (by decide +kernel)
set_option maxRecDepth 20000 in
theorem gX9_turned_X9_flag : GoodIn wsX9_turned (va_wsS RX9 31 yX9_flag wsX9_flag) := goodIn_app (goodIn_r _ [10, 11, 7] rfl (by decide +kernel)) ggX9_turned_X9_flag
set_option maxRecDepth 20000 in
theorem ggX9_turned_X9_enters : GoodIn wsX9_turned wsX9_enters := goodIn_r _ [16, 17, 3, 18, 19, 20, 21, 22, 23, 24, 25, 26, 27, 28, 29, 30, 31, 32, 33, 34, 35, 36, 37, 38, 39, 40, 41] rfl (by decide +kernel)
set_option maxRecDepth 20000 in
theorem gX9_turned_X9_enters : GoodIn wsX9_turned (wsV RX9 142 RX9 yX9_enters wsX9_enters) := goodIn_app (goodIn_r _ [13, 14, 15, 7] rfl (by decide +kernel)) ggX9_turned_X9_enters
set_option maxRecDepth 20000 in
theorem ggX9_spread_X9_isSpan : GoodIn wsX9_spread wsX9_isSpan := goodIn_r _ [8, 9, 42, 43, 44, 45, 46, 47, 48, 49, 50, 51, 52, 53, 54, 55, 56, 57, 58, 59, 60, 61, 62, 63, 64, 65] rfl (by decide +kernel)
set_option maxRecDepth 20000 in
theorem gX9_spread_X9_isSpan : GoodIn wsX9_spread (wsV RX9 150 RX9 yX9_isSpan wsX9_isSpan) := goodIn_app (goodIn_r _ [4, 5, 6, 7] rfl (by decide +kernel)) ggX9_spread_X9_isSpan
set_option maxRecDepth 20000 in
theorem ggX9_spread_X9_in : GoodIn wsX9_spread wsX9_in := goodIn_r _ [12] rfl (by decide +kernel)
set_option maxRecDepth 20000 in
theorem gX9_spread_X9_in : GoodIn wsX9_spread (va_wsS RX9 21 yX9_in wsX9_in) := goodIn_app (goodIn_r _ [10, 11, 7] rfl (by decide +kernel)) ggX9_spread_X9_in
set_option maxRecDepth 20000 in
theorem ggX9_spread_X9_counts : GoodIn wsX9_spread wsX9_counts := goodIn_r _ [16, 17, 18, 42, 43, 44, 45, 46, 47, 48, 49, 50, 51, 52, 53, 54, 55, 56, 57, 58, 59, 60, 61, 62, 63, 64, 65] rfl (by decide +kernel)
set_option maxRecDepth 20000 in
theorem gX9_spread_X9_counts : GoodIn wsX9_spread (wsV RX9 169 RX9 yX9_counts wsX9_counts) := goodIn_app (goodIn_r _ [13, 14, 15, 7] rfl (by decide +kernel)) ggX9_spread_X9_counts
set_option maxRecDepth 20000 in
theorem ggX9_spread_X9_within : GoodIn wsX9_spread wsX9_within := goodIn_r _ [22, 23, 24, 25, 26, 27, 28, 29, 30, 31, 32, 7, 33, 17, 42, 43, 44, 45, 46, 47, 48, 49, 50, 51, 52, 53, 54, 55, 56, 57, 58, 59, 60, 61, 62, 63, 64, 65] rfl (by decide +kernel)
set_option maxRecDepth 20000 in
theorem gX9_spread_X9_within : GoodIn wsX9_spread (wsV RX9 189 RX9 yX9_within wsX9_within) := goodIn_app (goodIn_r _ [19, 20, 21, 7] rfl (by decide +kernel)) ggX9_spread_X9_within
set_option maxRecDepth 20000 in
theorem ggX9_spread_X9_flag : GoodIn wsX9_spread wsX9_flag := goodIn_r _ [36] rfl (by decide +kernel)
set_option maxRecDepth 20000 in
theorem gX9_spread_X9_flag : GoodIn wsX9_spread (va_wsS RX9 31 yX9_flag wsX9_flag) := goodIn_app (goodIn_r _ [34, 35, 7] rfl (by decide +kernel)) ggX9_spread_X9_flag
set_option maxRecDepth 20000 in
theorem ggX9_spread_X9_enters : GoodIn wsX9_spread wsX9_enters := goodIn_r _ [40, 41, 3, 42, 43, 44, 45, 46, 47, 48, 49, 50, 51, 52, 53, 54, 55, 56, 57, 58, 59, 60, 61, 62, 63, 64, 65] rfl (by decide +kernel)
set_option maxRecDepth 20000 in
theorem gX9_spread_X9_enters : GoodIn wsX9_spread (wsV RX9 142 RX9 yX9_enters wsX9_enters) := goodIn_app (goodIn_r _ [37, 38, 39, 7] rfl (by decide +kernel)) ggX9_spread_X9_enters
set_option maxRecDepth 20000 in
theorem ggX9_nearest_X9_isSpan : GoodIn wsX9_nearest wsX9_isSpan := goodIn_r _ [9, 10, 30, 31, 32, 33, 34, 35, 36, 37, 38, 39, 40, 41, 42, 43, 44, 45, 46, 47, 48, 49, 50, 51, 52, 53] rfl (by decide +kernel)
set_option maxRecDepth 20000 in
theorem gX9_nearest_X9_isSpan : GoodIn wsX9_nearest (wsV RX9 150 RX9 yX9_isSpan wsX9_isSpan) := goodIn_app (goodIn_r _ [5, 6, 7, 8] rfl (by decide +kernel)) ggX9_nearest_X9_isSpan
set_option maxRecDepth 20000 in
theorem ggX9_nearest_X9_sorts : GoodIn wsX9_nearest wsX9_sorts := goodIn_r _ [14, 2, 3, 15, 16, 17, 8, 18, 19, 20, 21, 22, 23, 24, 30, 31, 32, 33, 34, 35, 36, 37, 38, 39, 40, 41, 42, 43, 44, 45, 46, 47, 48, 49, 50, 51, 52, 53] rfl (by decide +kernel)
set_option maxRecDepth 20000 in
theorem gX9_nearest_X9_sorts : GoodIn wsX9_nearest (wsV RX9 178 RX9 yX9_sorts wsX9_sorts) := goodIn_app (goodIn_r _ [11, 12, 13, 8] rfl (by decide +kernel)) ggX9_nearest_X9_sorts
set_option maxRecDepth 20000 in
theorem ggX9_nearest_X9_enters : GoodIn wsX9_nearest wsX9_enters := goodIn_r _ [28, 29, 4, 30, 31, 32, 33, 34, 35, 36, 37, 38, 39, 40, 41, 42, 43, 44, 45, 46, 47, 48, 49, 50, 51, 52, 53] rfl (by decide +kernel)
set_option maxRecDepth 20000 in
theorem gX9_nearest_X9_enters : GoodIn wsX9_nearest (wsV RX9 142 RX9 yX9_enters wsX9_enters) := goodIn_app (goodIn_r _ [25, 26, 27, 8] rfl (by decide +kernel)) ggX9_nearest_X9_enters
set_option maxRecDepth 20000 in
theorem ggX9_dense_X9_isSpan : GoodIn wsX9_dense wsX9_isSpan := goodIn_r _ [13, 14, 48, 49, 50, 51, 52, 53, 54, 55, 56, 57, 58, 59, 60, 61, 62, 63, 64, 65, 66, 67, 68, 69, 70, 71] rfl (by decide +kernel)
set_option maxRecDepth 20000 in
theorem gX9_dense_X9_isSpan : GoodIn wsX9_dense (wsV RX9 150 RX9 yX9_isSpan wsX9_isSpan) := goodIn_app (goodIn_r _ [9, 10, 11, 12] rfl (by decide +kernel)) ggX9_dense_X9_isSpan
set_option maxRecDepth 20000 in
theorem ggX9_dense_X9_isNumber : GoodIn wsX9_dense wsX9_isNumber := goodIn_r _ [17, 18, 19, 20, 12, 21] rfl (by decide +kernel)
set_option maxRecDepth 20000 in
theorem gX9_dense_X9_isNumber : GoodIn wsX9_dense (va_wsS RX9 129 yX9_isNumber wsX9_isNumber) := goodIn_app (goodIn_r _ [15, 16, 12] rfl (by decide +kernel)) ggX9_dense_X9_isNumber
set_option maxRecDepth 20000 in
theorem ggX9_dense_X9_sorts : GoodIn wsX9_dense wsX9_sorts := goodIn_r _ [25, 2, 3, 26, 27, 28, 12, 29, 30, 31, 32, 33, 34, 35, 48, 49, 50, 51, 52, 53, 54, 55, 56, 57, 58, 59, 60, 61, 62, 63, 64, 65, 66, 67, 68, 69, 70, 71] rfl (by decide +kernel)
set_option maxRecDepth 20000 in
theorem gX9_dense_X9_sorts : GoodIn wsX9_dense (wsV RX9 178 RX9 yX9_sorts wsX9_sorts) := goodIn_app (goodIn_r _ [22, 23, 24, 12] rfl (by decide +kernel)) ggX9_dense_X9_sorts
set_option maxRecDepth 20000 in
theorem ggX9_dense_X9_within : GoodIn wsX9_dense wsX9_within := goodIn_r _ [39, 4, 5, 6, 7, 40, 41, 42, 32, 33, 34, 12, 35, 30, 48, 49, 50, 51, 52, 53, 54, 55, 56, 57, 58, 59, 60, 61, 62, 63, 64, 65, 66, 67, 68, 69, 70, 71] rfl (by decide +kernel)
set_option maxRecDepth 20000 in
theorem gX9_dense_X9_within : GoodIn wsX9_dense (wsV RX9 189 RX9 yX9_within wsX9_within) := goodIn_app (goodIn_r _ [36, 37, 38, 12] rfl (by decide +kernel)) ggX9_dense_X9_within
set_option maxRecDepth 20000 in
theorem ggX9_dense_X9_enters : GoodIn wsX9_dense wsX9_enters := goodIn_r _ [46, 47, 8, 48, 49, 50, 51, 52, 53, 54, 55, 56, 57, 58, 59, 60, 61, 62, 63, 64, 65, 66, 67, 68, 69, 70, 71] rfl (by decide +kernel)
set_option maxRecDepth 20000 in
theorem gX9_dense_X9_enters : GoodIn wsX9_dense (wsV RX9 142 RX9 yX9_enters wsX9_enters) := goodIn_app (goodIn_r _ [43, 44, 45, 12] rfl (by decide +kernel)) ggX9_dense_X9_enters
set_option maxRecDepth 20000 in
theorem ggX9_farthest_X9_isSpan : GoodIn wsX9_farthest wsX9_isSpan := goodIn_r _ [7, 8, 31, 32, 33, 34, 35, 36, 37, 38, 39, 40, 41, 42, 43, 44, 45, 46, 47, 48, 49, 50, 51, 52, 53, 54] rfl (by decide +kernel)
set_option maxRecDepth 20000 in
theorem gX9_farthest_X9_isSpan : GoodIn wsX9_farthest (wsV RX9 150 RX9 yX9_isSpan wsX9_isSpan) := goodIn_app (goodIn_r _ [3, 4, 5, 6] rfl (by decide +kernel)) ggX9_farthest_X9_isSpan
set_option maxRecDepth 20000 in
theorem ggX9_farthest_X9_isNumber : GoodIn wsX9_farthest wsX9_isNumber := goodIn_r _ [11, 12, 13, 14, 6, 15] rfl (by decide +kernel)
set_option maxRecDepth 20000 in
theorem gX9_farthest_X9_isNumber : GoodIn wsX9_farthest (va_wsS RX9 129 yX9_isNumber wsX9_isNumber) := goodIn_app (goodIn_r _ [9, 10, 6] rfl (by decide +kernel)) ggX9_farthest_X9_isNumber
set_option maxRecDepth 20000 in
theorem ggX9_farthest_X9_counts : GoodIn wsX9_farthest wsX9_counts := goodIn_r _ [19, 20, 21, 31, 32, 33, 34, 35, 36, 37, 38, 39, 40, 41, 42, 43, 44, 45, 46, 47, 48, 49, 50, 51, 52, 53, 54] rfl (by decide +kernel)
set_option maxRecDepth 20000 in
theorem gX9_farthest_X9_counts : GoodIn wsX9_farthest (wsV RX9 169 RX9 yX9_counts wsX9_counts) := goodIn_app (goodIn_r _ [16, 17, 18, 6] rfl (by decide +kernel)) ggX9_farthest_X9_counts
set_option maxRecDepth 20000 in
theorem ggX9_farthest_X9_times : GoodIn wsX9_farthest wsX9_times := goodIn_r _ [25, 20, 31, 32, 33, 34, 35, 36, 37, 38, 39, 40, 41, 42, 43, 44, 45, 46, 47, 48, 49, 50, 51, 52, 53, 54] rfl (by decide +kernel)
set_option maxRecDepth 20000 in
theorem gX9_farthest_X9_times : GoodIn wsX9_farthest (wsV RX9 175 RX9 yX9_times wsX9_times) := goodIn_app (goodIn_r _ [22, 23, 24, 6] rfl (by decide +kernel)) ggX9_farthest_X9_times
set_option maxRecDepth 20000 in
theorem ggX9_farthest_X9_enters : GoodIn wsX9_farthest wsX9_enters := goodIn_r _ [29, 30, 2, 31, 32, 33, 34, 35, 36, 37, 38, 39, 40, 41, 42, 43, 44, 45, 46, 47, 48, 49, 50, 51, 52, 53, 54] rfl (by decide +kernel)
set_option maxRecDepth 20000 in
theorem gX9_farthest_X9_enters : GoodIn wsX9_farthest (wsV RX9 142 RX9 yX9_enters wsX9_enters) := goodIn_app (goodIn_r _ [26, 27, 28, 6] rfl (by decide +kernel)) ggX9_farthest_X9_enters
set_option maxRecDepth 20000 in
theorem ggX9_fit_X9_isSpan : GoodIn wsX9_fit wsX9_isSpan := goodIn_r _ [9, 10, 30, 31, 32, 33, 34, 35, 36, 37, 38, 39, 40, 41, 42, 43, 44, 45, 46, 47, 48, 49, 50, 51, 52, 53] rfl (by decide +kernel)
set_option maxRecDepth 20000 in
theorem gX9_fit_X9_isSpan : GoodIn wsX9_fit (wsV RX9 150 RX9 yX9_isSpan wsX9_isSpan) := goodIn_app (goodIn_r _ [5, 6, 7, 8] rfl (by decide +kernel)) ggX9_fit_X9_isSpan
set_option maxRecDepth 20000 in
theorem ggX9_fit_X9_sorts : GoodIn wsX9_fit wsX9_sorts := goodIn_r _ [14, 2, 3, 15, 16, 17, 8, 18, 19, 20, 21, 22, 23, 24, 30, 31, 32, 33, 34, 35, 36, 37, 38, 39, 40, 41, 42, 43, 44, 45, 46, 47, 48, 49, 50, 51, 52, 53] rfl (by decide +kernel)
set_option maxRecDepth 20000 in
theorem gX9_fit_X9_sorts : GoodIn wsX9_fit (wsV RX9 178 RX9 yX9_sorts wsX9_sorts) := goodIn_app (goodIn_r _ [11, 12, 13, 8] rfl (by decide +kernel)) ggX9_fit_X9_sorts
set_option maxRecDepth 20000 in
theorem ggX9_fit_X9_enters : GoodIn wsX9_fit wsX9_enters := goodIn_r _ [28, 29, 4, 30, 31, 32, 33, 34, 35, 36, 37, 38, 39, 40, 41, 42, 43, 44, 45, 46, 47, 48, 49, 50, 51, 52, 53] rfl (by decide +kernel)
set_option maxRecDepth 20000 in
theorem gX9_fit_X9_enters : GoodIn wsX9_fit (wsV RX9 142 RX9 yX9_enters wsX9_enters) := goodIn_app (goodIn_r _ [25, 26, 27, 8] rfl (by decide +kernel)) ggX9_fit_X9_enters
set_option maxRecDepth 20000 in
theorem ggX9_gap_X9_isSpan : GoodIn wsX9_gap wsX9_isSpan := goodIn_r _ [9, 10, 30, 31, 32, 33, 34, 35, 36, 37, 38, 39, 40, 41, 42, 43, 44, 45, 46, 47, 48, 49, 50, 51, 52, 53] rfl (by decide +kernel)
set_option maxRecDepth 20000 in
theorem gX9_gap_X9_isSpan : GoodIn wsX9_gap (wsV RX9 150 RX9 yX9_isSpan wsX9_isSpan) := goodIn_app (goodIn_r _ [5, 6, 7, 8] rfl (by decide +kernel)) ggX9_gap_X9_isSpan
set_option maxRecDepth 20000 in
theorem ggX9_gap_X9_sorts : GoodIn wsX9_gap wsX9_sorts := goodIn_r _ [14, 2, 3, 15, 16, 17, 8, 18, 19, 20, 21, 22, 23, 24, 30, 31, 32, 33, 34, 35, 36, 37, 38, 39, 40, 41, 42, 43, 44, 45, 46, 47, 48, 49, 50, 51, 52, 53] rfl (by decide +kernel)
set_option maxRecDepth 20000 in
theorem gX9_gap_X9_sorts : GoodIn wsX9_gap (wsV RX9 178 RX9 yX9_sorts wsX9_sorts) := goodIn_app (goodIn_r _ [11, 12, 13, 8] rfl (by decide +kernel)) ggX9_gap_X9_sorts
set_option maxRecDepth 20000 in
theorem ggX9_gap_X9_enters : GoodIn wsX9_gap wsX9_enters := goodIn_r _ [28, 29, 4, 30, 31, 32, 33, 34, 35, 36, 37, 38, 39, 40, 41, 42, 43, 44, 45, 46, 47, 48, 49, 50, 51, 52, 53] rfl (by decide +kernel)
set_option maxRecDepth 20000 in
theorem gX9_gap_X9_enters : GoodIn wsX9_gap (wsV RX9 142 RX9 yX9_enters wsX9_enters) := goodIn_app (goodIn_r _ [25, 26, 27, 8] rfl (by decide +kernel)) ggX9_gap_X9_enters
set_option maxRecDepth 20000 in
theorem ggX9_narrow_X9_isNumber : GoodIn wsX9_narrow wsX9_isNumber := goodIn_r _ [9, 10, 11, 12, 8, 13] rfl (by decide +kernel)
set_option maxRecDepth 20000 in
theorem gX9_narrow_X9_isNumber : GoodIn wsX9_narrow (va_wsS RX9 129 yX9_isNumber wsX9_isNumber) := goodIn_app (goodIn_r _ [6, 7, 8] rfl (by decide +kernel)) ggX9_narrow_X9_isNumber
set_option maxRecDepth 20000 in
theorem ggX9_narrow_X9_in : GoodIn wsX9_narrow wsX9_in := goodIn_r _ [13] rfl (by decide +kernel)
set_option maxRecDepth 20000 in
theorem gX9_narrow_X9_in : GoodIn wsX9_narrow (va_wsS RX9 21 yX9_in wsX9_in) := goodIn_app (goodIn_r _ [11, 12, 8] rfl (by decide +kernel)) ggX9_narrow_X9_in
set_option maxRecDepth 20000 in
theorem ggX9_narrow_X9_flag : GoodIn wsX9_narrow wsX9_flag := goodIn_r _ [16] rfl (by decide +kernel)
set_option maxRecDepth 20000 in
theorem gX9_narrow_X9_flag : GoodIn wsX9_narrow (va_wsS RX9 31 yX9_flag wsX9_flag) := goodIn_app (goodIn_r _ [14, 15, 8] rfl (by decide +kernel)) ggX9_narrow_X9_flag
set_option maxRecDepth 20000 in
theorem ggX9_narrow_X9_enters : GoodIn wsX9_narrow wsX9_enters := goodIn_r _ [20, 21, 5, 22, 23, 24, 25, 26, 27, 28, 29, 30, 31, 32, 33, 34, 35, 36, 37, 38, 39, 40, 41, 42, 43, 44, 45] rfl (by decide +kernel)
set_option maxRecDepth 20000 in
theorem gX9_narrow_X9_enters : GoodIn wsX9_narrow (wsV RX9 142 RX9 yX9_enters wsX9_enters) := goodIn_app (goodIn_r _ [17, 18, 19, 8] rfl (by decide +kernel)) ggX9_narrow_X9_enters
set_option maxRecDepth 20000 in
theorem ggX9_lone_X9_isSpan : GoodIn wsX9_lone wsX9_isSpan := goodIn_r _ [7, 8, 24, 25, 26, 27, 28, 29, 30, 31, 32, 33, 34, 35, 36, 37, 38, 39, 40, 41, 42, 43, 44, 45, 46, 47] rfl (by decide +kernel)
set_option maxRecDepth 20000 in
theorem gX9_lone_X9_isSpan : GoodIn wsX9_lone (wsV RX9 150 RX9 yX9_isSpan wsX9_isSpan) := goodIn_app (goodIn_r _ [3, 4, 5, 6] rfl (by decide +kernel)) ggX9_lone_X9_isSpan
set_option maxRecDepth 20000 in
theorem ggX9_lone_X9_counts : GoodIn wsX9_lone wsX9_counts := goodIn_r _ [12, 13, 14, 24, 25, 26, 27, 28, 29, 30, 31, 32, 33, 34, 35, 36, 37, 38, 39, 40, 41, 42, 43, 44, 45, 46, 47] rfl (by decide +kernel)
set_option maxRecDepth 20000 in
theorem gX9_lone_X9_counts : GoodIn wsX9_lone (wsV RX9 169 RX9 yX9_counts wsX9_counts) := goodIn_app (goodIn_r _ [9, 10, 11, 6] rfl (by decide +kernel)) ggX9_lone_X9_counts
set_option maxRecDepth 20000 in
theorem ggX9_lone_X9_times : GoodIn wsX9_lone wsX9_times := goodIn_r _ [18, 13, 24, 25, 26, 27, 28, 29, 30, 31, 32, 33, 34, 35, 36, 37, 38, 39, 40, 41, 42, 43, 44, 45, 46, 47] rfl (by decide +kernel)
set_option maxRecDepth 20000 in
theorem gX9_lone_X9_times : GoodIn wsX9_lone (wsV RX9 175 RX9 yX9_times wsX9_times) := goodIn_app (goodIn_r _ [15, 16, 17, 6] rfl (by decide +kernel)) ggX9_lone_X9_times
set_option maxRecDepth 20000 in
theorem ggX9_lone_X9_enters : GoodIn wsX9_lone wsX9_enters := goodIn_r _ [22, 23, 2, 24, 25, 26, 27, 28, 29, 30, 31, 32, 33, 34, 35, 36, 37, 38, 39, 40, 41, 42, 43, 44, 45, 46, 47] rfl (by decide +kernel)
set_option maxRecDepth 20000 in
theorem gX9_lone_X9_enters : GoodIn wsX9_lone (wsV RX9 142 RX9 yX9_enters wsX9_enters) := goodIn_app (goodIn_r _ [19, 20, 21, 6] rfl (by decide +kernel)) ggX9_lone_X9_enters
set_option maxRecDepth 20000 in
theorem ggX9_rises_X9_isSpan : GoodIn wsX9_rises wsX9_isSpan := goodIn_r _ [18, 19, 25, 26, 27, 28, 29, 30, 31, 32, 33, 34, 35, 36, 37, 38, 39, 40, 41, 42, 43, 44, 45, 46, 47, 48] rfl (by decide +kernel)
set_option maxRecDepth 20000 in
theorem gX9_rises_X9_isSpan : GoodIn wsX9_rises (wsV RX9 150 RX9 yX9_isSpan wsX9_isSpan) := goodIn_app (goodIn_r _ [14, 15, 16, 17] rfl (by decide +kernel)) ggX9_rises_X9_isSpan
set_option maxRecDepth 20000 in
theorem ggX9_rises_X9_enters : GoodIn wsX9_rises wsX9_enters := goodIn_r _ [23, 24, 13, 25, 26, 27, 28, 29, 30, 31, 32, 33, 34, 35, 36, 37, 38, 39, 40, 41, 42, 43, 44, 45, 46, 47, 48] rfl (by decide +kernel)
set_option maxRecDepth 20000 in
theorem gX9_rises_X9_enters : GoodIn wsX9_rises (wsV RX9 142 RX9 yX9_enters wsX9_enters) := goodIn_app (goodIn_r _ [20, 21, 22, 17] rfl (by decide +kernel)) ggX9_rises_X9_enters
set_option maxRecDepth 20000 in
theorem ggX9_marks_X9_isSpan : GoodIn wsX9_marks wsX9_isSpan := goodIn_r _ [8, 9, 22, 23, 24, 25, 26, 27, 28, 29, 30, 31, 32, 33, 34, 35, 36, 37, 38, 39, 40, 41, 42, 43, 44, 45] rfl (by decide +kernel)
set_option maxRecDepth 20000 in
theorem gX9_marks_X9_isSpan : GoodIn wsX9_marks (wsV RX9 150 RX9 yX9_isSpan wsX9_isSpan) := goodIn_app (goodIn_r _ [4, 5, 6, 7] rfl (by decide +kernel)) ggX9_marks_X9_isSpan
set_option maxRecDepth 20000 in
theorem ggX9_marks_X9_isNumber : GoodIn wsX9_marks wsX9_isNumber := goodIn_r _ [12, 13, 14, 15, 7, 16] rfl (by decide +kernel)
set_option maxRecDepth 20000 in
theorem gX9_marks_X9_isNumber : GoodIn wsX9_marks (va_wsS RX9 129 yX9_isNumber wsX9_isNumber) := goodIn_app (goodIn_r _ [10, 11, 7] rfl (by decide +kernel)) ggX9_marks_X9_isNumber
set_option maxRecDepth 20000 in
theorem ggX9_marks_X9_enters : GoodIn wsX9_marks wsX9_enters := goodIn_r _ [20, 21, 2, 22, 23, 24, 25, 26, 27, 28, 29, 30, 31, 32, 33, 34, 35, 36, 37, 38, 39, 40, 41, 42, 43, 44, 45] rfl (by decide +kernel)
set_option maxRecDepth 20000 in
theorem gX9_marks_X9_enters : GoodIn wsX9_marks (wsV RX9 142 RX9 yX9_enters wsX9_enters) := goodIn_app (goodIn_r _ [17, 18, 19, 7] rfl (by decide +kernel)) ggX9_marks_X9_enters
set_option maxRecDepth 20000 in
theorem ggX9_counts__X9_isSpan : GoodIn wsX9_counts_ wsX9_isSpan := goodIn_r _ [5, 6, 13, 14, 15, 16, 17, 18, 19, 20, 21, 22, 23, 24, 25, 26, 27, 28, 29, 30, 31, 32, 33, 34, 35, 36] rfl (by decide +kernel)
set_option maxRecDepth 20000 in
theorem gX9_counts__X9_isSpan : GoodIn wsX9_counts_ (wsV RX9 150 RX9 yX9_isSpan wsX9_isSpan) := goodIn_app (goodIn_r _ [1, 2, 3, 4] rfl (by decide +kernel)) ggX9_counts__X9_isSpan
set_option maxRecDepth 20000 in
theorem ggX9_counts__X9_counts : GoodIn wsX9_counts_ wsX9_counts := goodIn_r _ [10, 11, 12, 13, 14, 15, 16, 17, 18, 19, 20, 21, 22, 23, 24, 25, 26, 27, 28, 29, 30, 31, 32, 33, 34, 35, 36] rfl (by decide +kernel)
set_option maxRecDepth 20000 in
theorem gX9_counts__X9_counts : GoodIn wsX9_counts_ (wsV RX9 169 RX9 yX9_counts wsX9_counts) := goodIn_app (goodIn_r _ [7, 8, 9, 4] rfl (by decide +kernel)) ggX9_counts__X9_counts
set_option maxRecDepth 20000 in
theorem ggX9_common_X9_counts_ : GoodIn wsX9_common wsX9_counts_ := goodIn_r _ [7, 8, 9, 10, 6, 11, 12, 13, 14, 15, 16, 17, 18, 46, 47, 48, 49, 50, 51, 52, 53, 54, 55, 56, 57, 58, 59, 60, 61, 62, 63, 64, 65, 66, 67, 68, 69] rfl (by decide +kernel)
set_option maxRecDepth 20000 in
theorem gX9_common_X9_counts_ : GoodIn wsX9_common (wsV RX9 215 RX9 yX9_counts_ wsX9_counts_) := goodIn_app (goodIn_r _ [3, 4, 5, 6] rfl (by decide +kernel)) ggX9_common_X9_counts_
set_option maxRecDepth 20000 in
theorem ggX9_common_X9_nodes : GoodIn wsX9_common wsX9_nodes := goodIn_r _ [22, 23, 24, 25, 6, 26, 27, 28, 29, 30, 31, 32, 33, 34, 35, 36, 37, 17, 38, 39, 40, 46, 47, 48, 49, 50, 51, 52, 53, 54, 55, 56, 57, 58, 59, 60, 61, 62, 63, 64, 65, 66, 67, 68, 69] rfl (by decide +kernel)
set_option maxRecDepth 20000 in
theorem gX9_common_X9_nodes : GoodIn wsX9_common (wsV RX9 204 RX9 yX9_nodes wsX9_nodes) := goodIn_app (goodIn_r _ [19, 20, 21, 6] rfl (by decide +kernel)) ggX9_common_X9_nodes
set_option maxRecDepth 20000 in
theorem ggX9_common_X9_enters : GoodIn wsX9_common wsX9_enters := goodIn_r _ [44, 45, 2, 46, 47, 48, 49, 50, 51, 52, 53, 54, 55, 56, 57, 58, 59, 60, 61, 62, 63, 64, 65, 66, 67, 68, 69] rfl (by decide +kernel)
set_option maxRecDepth 20000 in
theorem gX9_common_X9_enters : GoodIn wsX9_common (wsV RX9 142 RX9 yX9_enters wsX9_enters) := goodIn_app (goodIn_r _ [41, 42, 43, 6] rfl (by decide +kernel)) ggX9_common_X9_enters
set_option maxRecDepth 20000 in
theorem ggX9_common_X9_times : GoodIn wsX9_common wsX9_times := goodIn_r _ [37, 17, 46, 47, 48, 49, 50, 51, 52, 53, 54, 55, 56, 57, 58, 59, 60, 61, 62, 63, 64, 65, 66, 67, 68, 69] rfl (by decide +kernel)
set_option maxRecDepth 20000 in
theorem gX9_common_X9_times : GoodIn wsX9_common (wsV RX9 175 RX9 yX9_times wsX9_times) := goodIn_app (goodIn_r _ [34, 35, 36, 6] rfl (by decide +kernel)) ggX9_common_X9_times
set_option maxRecDepth 20000 in
theorem ggX9_lacking_X9_counts_ : GoodIn wsX9_lacking wsX9_counts_ := goodIn_r _ [7, 8, 9, 10, 6, 11, 12, 13, 14, 15, 16, 17, 18, 28, 29, 30, 31, 32, 33, 34, 35, 36, 37, 38, 39, 40, 41, 42, 43, 44, 45, 46, 47, 48, 49, 50, 51] rfl (by decide +kernel)
set_option maxRecDepth 20000 in
theorem gX9_lacking_X9_counts_ : GoodIn wsX9_lacking (wsV RX9 215 RX9 yX9_counts_ wsX9_counts_) := goodIn_app (goodIn_r _ [3, 4, 5, 6] rfl (by decide +kernel)) ggX9_lacking_X9_counts_
