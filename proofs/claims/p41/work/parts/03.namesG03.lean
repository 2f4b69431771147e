set_option maxRecDepth 20000 in
theorem ggX9_lacking_X9_times : GoodIn wsX9_lacking wsX9_times := goodIn_r _ [22, 17, 28, 29, 30, 31, 32, 33, 34, 35, 36, 37, 38, 39, 40, 41, 42, 43, 44, 45, 46, 47, 48, 49, 50, 51] rfl (by decide +kernel)
set_option maxRecDepth 20000 in
theorem gX9_lacking_X9_times : GoodIn wsX9_lacking (wsV RX9 175 RX9 yX9_times wsX9_times) := goodIn_app (goodIn_r _ [19, 20, 21, 6] rfl (by decide +kernel)) ggX9_lacking_X9_times
set_option maxRecDepth 20000 in
theorem ggX9_lacking_X9_enters : GoodIn wsX9_lacking wsX9_enters := goodIn_r _ [26, 27, 2, 28, 29, 30, 31, 32, 33, 34, 35, 36, 37, 38, 39, 40, 41, 42, 43, 44, 45, 46, 47, 48, 49, 50, 51] rfl (by decide +kernel)
set_option maxRecDepth 20000 in
theorem gX9_lacking_X9_enters : GoodIn wsX9_lacking (wsV RX9 142 RX9 yX9_enters wsX9_enters) := goodIn_app (goodIn_r _ [23, 24, 25, 6] rfl (by decide +kernel)) ggX9_lacking_X9_enters
set_option maxRecDepth 20000 in
theorem ggX9_both_X9_isSpan : GoodIn wsX9_both wsX9_isSpan := goodIn_r _ [7, 8, 28, 29, 30, 31, 32, 33, 34, 35, 36, 37, 38, 39, 40, 41, 42, 43, 44, 45, 46, 47, 48, 49, 50, 51] rfl (by decide +kernel)
set_option maxRecDepth 20000 in
theorem gX9_both_X9_isSpan : GoodIn wsX9_both (wsV RX9 150 RX9 yX9_isSpan wsX9_isSpan) := goodIn_app (goodIn_r _ [3, 4, 5, 6] rfl (by decide +kernel)) ggX9_both_X9_isSpan
set_option maxRecDepth 20000 in
theorem ggX9_both_X9_counts_ : GoodIn wsX9_both wsX9_counts_ := goodIn_r _ [12, 3, 4, 5, 6, 7, 8, 13, 14, 15, 16, 17, 18, 28, 29, 30, 31, 32, 33, 34, 35, 36, 37, 38, 39, 40, 41, 42, 43, 44, 45, 46, 47, 48, 49, 50, 51] rfl (by decide +kernel)
set_option maxRecDepth 20000 in
theorem gX9_both_X9_counts_ : GoodIn wsX9_both (wsV RX9 215 RX9 yX9_counts_ wsX9_counts_) := goodIn_app (goodIn_r _ [9, 10, 11, 6] rfl (by decide +kernel)) ggX9_both_X9_counts_
set_option maxRecDepth 20000 in
theorem ggX9_both_X9_times : GoodIn wsX9_both wsX9_times := goodIn_r _ [22, 17, 28, 29, 30, 31, 32, 33, 34, 35, 36, 37, 38, 39, 40, 41, 42, 43, 44, 45, 46, 47, 48, 49, 50, 51] rfl (by decide +kernel)
set_option maxRecDepth 20000 in
theorem gX9_both_X9_times : GoodIn wsX9_both (wsV RX9 175 RX9 yX9_times wsX9_times) := goodIn_app (goodIn_r _ [19, 20, 21, 6] rfl (by decide +kernel)) ggX9_both_X9_times
set_option maxRecDepth 20000 in
theorem ggX9_both_X9_enters : GoodIn wsX9_both wsX9_enters := goodIn_r _ [26, 27, 2, 28, 29, 30, 31, 32, 33, 34, 35, 36, 37, 38, 39, 40, 41, 42, 43, 44, 45, 46, 47, 48, 49, 50, 51] rfl (by decide +kernel)
set_option maxRecDepth 20000 in
theorem gX9_both_X9_enters : GoodIn wsX9_both (wsV RX9 142 RX9 yX9_enters wsX9_enters) := goodIn_app (goodIn_r _ [23, 24, 25, 6] rfl (by decide +kernel)) ggX9_both_X9_enters
set_option maxRecDepth 20000 in
theorem ggX9_same_X9_counts_ : GoodIn wsX9_same wsX9_counts_ := goodIn_r _ [11, 12, 13, 14, 10, 15, 16, 17, 18, 19, 20, 21, 22, 35, 36, 37, 38, 39, 40, 41, 42, 43, 44, 45, 46, 47, 48, 49, 50, 51, 52, 53, 54, 55, 56, 57, 58] rfl (by decide +kernel)
set_option maxRecDepth 20000 in
theorem gX9_same_X9_counts_ : GoodIn wsX9_same (wsV RX9 215 RX9 yX9_counts_ wsX9_counts_) := goodIn_app (goodIn_r _ [7, 8, 9, 10] rfl (by decide +kernel)) ggX9_same_X9_counts_
set_option maxRecDepth 20000 in
theorem ggX9_same_X9_times : GoodIn wsX9_same wsX9_times := goodIn_r _ [26, 21, 35, 36, 37, 38, 39, 40, 41, 42, 43, 44, 45, 46, 47, 48, 49, 50, 51, 52, 53, 54, 55, 56, 57, 58] rfl (by decide +kernel)
set_option maxRecDepth 20000 in
theorem gX9_same_X9_times : GoodIn wsX9_same (wsV RX9 175 RX9 yX9_times wsX9_times) := goodIn_app (goodIn_r _ [23, 24, 25, 10] rfl (by decide +kernel)) ggX9_same_X9_times
set_option maxRecDepth 20000 in
theorem ggX9_same_X9_enters : GoodIn wsX9_same wsX9_enters := goodIn_r _ [30, 31, 6, 35, 36, 37, 38, 39, 40, 41, 42, 43, 44, 45, 46, 47, 48, 49, 50, 51, 52, 53, 54, 55, 56, 57, 58] rfl (by decide +kernel)
set_option maxRecDepth 20000 in
theorem gX9_same_X9_enters : GoodIn wsX9_same (wsV RX9 142 RX9 yX9_enters wsX9_enters) := goodIn_app (goodIn_r _ [27, 28, 29, 10] rfl (by decide +kernel)) ggX9_same_X9_enters
set_option maxRecDepth 20000 in
theorem ggX9_same_X9_flag : GoodIn wsX9_same wsX9_flag := goodIn_r _ [34] rfl (by decide +kernel)
set_option maxRecDepth 20000 in
theorem gX9_same_X9_flag : GoodIn wsX9_same (va_wsS RX9 31 yX9_flag wsX9_flag) := goodIn_app (goodIn_r _ [32, 33, 10] rfl (by decide +kernel)) ggX9_same_X9_flag
set_option maxRecDepth 20000 in
theorem ggX9_unlike_X9_counts : GoodIn wsX9_unlike wsX9_counts := goodIn_r _ [6, 7, 8, 16, 17, 18, 19, 20, 21, 22, 23, 24, 25, 26, 27, 28, 29, 30, 31, 32, 33, 34, 35, 36, 37, 38, 39] rfl (by decide +kernel)
set_option maxRecDepth 20000 in
theorem gX9_unlike_X9_counts : GoodIn wsX9_unlike (wsV RX9 169 RX9 yX9_counts wsX9_counts) := goodIn_app (goodIn_r _ [2, 3, 4, 5] rfl (by decide +kernel)) ggX9_unlike_X9_counts
set_option maxRecDepth 20000 in
theorem ggX9_unlike_X9_times : GoodIn wsX9_unlike wsX9_times := goodIn_r _ [12, 7, 16, 17, 18, 19, 20, 21, 22, 23, 24, 25, 26, 27, 28, 29, 30, 31, 32, 33, 34, 35, 36, 37, 38, 39] rfl (by decide +kernel)
set_option maxRecDepth 20000 in
theorem gX9_unlike_X9_times : GoodIn wsX9_unlike (wsV RX9 175 RX9 yX9_times wsX9_times) := goodIn_app (goodIn_r _ [9, 10, 11, 5] rfl (by decide +kernel)) ggX9_unlike_X9_times
set_option maxRecDepth 20000 in
theorem ggX9_unlike_X9_flag : GoodIn wsX9_unlike wsX9_flag := goodIn_r _ [15] rfl (by decide +kernel)
set_option maxRecDepth 20000 in
theorem gX9_unlike_X9_flag : GoodIn wsX9_unlike (va_wsS RX9 31 yX9_flag wsX9_flag) := goodIn_app (goodIn_r _ [13, 14, 5] rfl (by decide +kernel)) ggX9_unlike_X9_flag
set_option maxRecDepth 20000 in
theorem ggX9_together_J6_bitCount_0f7a4 : GoodIn wsX9_together wsJ6_bitCount_0f7a4 := goodIn_r _ [6, 7, 8, 9] rfl (by decide +kernel)
set_option maxRecDepth 20000 in
theorem gX9_together_J6_bitCount_0f7a4 : GoodIn wsX9_together (va_wsS RX9 218 yJ6_bitCount_0f7a4 wsJ6_bitCount_0f7a4) := goodIn_app (goodIn_r _ [3, 4, 5] rfl (by decide +kernel)) ggX9_together_J6_bitCount_0f7a4
set_option maxRecDepth 20000 in
theorem ggX9_count_X9_unlike : GoodIn wsX9_count wsX9_unlike := goodIn_r _ [9, 2, 10, 11, 12, 8, 13, 14, 15, 16, 17, 18, 19, 20, 21, 22, 34, 35, 36, 37, 38, 39, 40, 41, 42, 43, 44, 45, 46, 47, 48, 49, 50, 51, 52, 53, 54, 55, 56, 57] rfl (by decide +kernel)
set_option maxRecDepth 20000 in
theorem gX9_count_X9_unlike : GoodIn wsX9_count (wsV RX9 223 RX9 yX9_unlike wsX9_unlike) := goodIn_app (goodIn_r _ [5, 6, 7, 8] rfl (by decide +kernel)) ggX9_count_X9_unlike
set_option maxRecDepth 20000 in
theorem ggX9_count_X9_together : GoodIn wsX9_count wsX9_together := goodIn_r _ [26, 2, 15, 27, 28, 29, 30, 31, 32, 33, 34, 35, 36, 37, 38, 39, 40, 41, 42, 43, 44, 45, 46, 47, 48, 49, 50, 51, 52, 53, 54, 55, 56, 57] rfl (by decide +kernel)
set_option maxRecDepth 20000 in
theorem gX9_count_X9_together : GoodIn wsX9_count (wsV RX9 226 RX9 yX9_together wsX9_together) := goodIn_app (goodIn_r _ [23, 24, 25, 8] rfl (by decide +kernel)) ggX9_count_X9_together
set_option maxRecDepth 20000 in
theorem ggX9_row_X9_in : GoodIn wsX9_row wsX9_in := goodIn_r _ [7] rfl (by decide +kernel)
set_option maxRecDepth 20000 in
theorem gX9_row_X9_in : GoodIn wsX9_row (va_wsS RX9 21 yX9_in wsX9_in) := goodIn_app (goodIn_r _ [4, 5, 6] rfl (by decide +kernel)) ggX9_row_X9_in
set_option maxRecDepth 20000 in
theorem ggX9_row_X9_flag : GoodIn wsX9_row wsX9_flag := goodIn_r _ [10] rfl (by decide +kernel)
set_option maxRecDepth 20000 in
theorem gX9_row_X9_flag : GoodIn wsX9_row (va_wsS RX9 31 yX9_flag wsX9_flag) := goodIn_app (goodIn_r _ [8, 9, 6] rfl (by decide +kernel)) ggX9_row_X9_flag
