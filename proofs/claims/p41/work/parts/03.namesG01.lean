set_option maxRecDepth 20000 in
theorem ggX8_spread_X6_take : GoodIn wsX8_spread wsX6_take := goodIn_r _ [14, 15, 16, 17, 18, 19, 20, 21, 22, 13, 23, 24, 25, 26, 27, 28, 29, 30, 31, 32, 33, 57, 58, 59] rfl (by decide +kernel)
set_option maxRecDepth 20000 in
theorem gX8_spread_X6_take : GoodIn wsX8_spread (wsV RX8 164 RX6 yX6_take wsX6_take) := goodIn_app (goodIn_r _ [10, 11, 12, 13] rfl (by decide +kernel)) ggX8_spread_X6_take
set_option maxRecDepth 20000 in
theorem ggX8_spread_X7_begin : GoodIn wsX8_spread wsX7_begin := goodIn_r _ [38, 39, 60, 61] rfl (by decide +kernel)
set_option maxRecDepth 20000 in
theorem gX8_spread_X7_begin : GoodIn wsX8_spread (wsV RX8 152 RX7 yX7_begin wsX7_begin) := goodIn_app (goodIn_r _ [34, 35, 36, 37] rfl (by decide +kernel)) ggX8_spread_X7_begin
set_option maxRecDepth 20000 in
theorem ggX8_spread_X6_inNode : GoodIn wsX8_spread wsX6_inNode := goodIn_r _ [33, 15, 57, 58, 59] rfl (by decide +kernel)
set_option maxRecDepth 20000 in
theorem gX8_spread_X6_inNode : GoodIn wsX8_spread (wsV RX8 191 RX6 yX6_inNode wsX6_inNode) := goodIn_app (goodIn_r _ [40, 31, 32, 13] rfl (by decide +kernel)) ggX8_spread_X6_inNode
set_option maxRecDepth 20000 in
theorem ggX8_spread_X7_add : GoodIn wsX8_spread wsX7_add := goodIn_r _ [44, 39, 45, 60, 61] rfl (by decide +kernel)
set_option maxRecDepth 20000 in
theorem gX8_spread_X7_add : GoodIn wsX8_spread (wsV RX8 155 RX7 yX7_add wsX7_add) := goodIn_app (goodIn_r _ [41, 42, 43, 37] rfl (by decide +kernel)) ggX8_spread_X7_add
set_option maxRecDepth 20000 in
theorem ggX8_nearest_X8_isSpan : GoodIn wsX8_nearest wsX8_isSpan := goodIn_r _ [7, 8, 57, 58, 59, 60, 61, 62, 63, 64, 65, 66, 67] rfl (by decide +kernel)
set_option maxRecDepth 20000 in
theorem gX8_nearest_X8_isSpan : GoodIn wsX8_nearest (wsV RX8 122 RX8 yX8_isSpan wsX8_isSpan) := goodIn_app (goodIn_r _ [3, 4, 5, 6] rfl (by decide +kernel)) ggX8_nearest_X8_isSpan
set_option maxRecDepth 20000 in
theorem ggX8_nearest_X6_take : GoodIn wsX8_nearest wsX6_take := goodIn_r _ [13, 14, 15, 16, 17, 18, 19, 20, 21, 12, 22, 23, 24, 25, 26, 27, 28, 29, 30, 31, 32, 68, 69, 70] rfl (by decide +kernel)
set_option maxRecDepth 20000 in
theorem gX8_nearest_X6_take : GoodIn wsX8_nearest (wsV RX8 164 RX6 yX6_take wsX6_take) := goodIn_app (goodIn_r _ [9, 10, 11, 12] rfl (by decide +kernel)) ggX8_nearest_X6_take
set_option maxRecDepth 20000 in
theorem ggX8_nearest_X8_apart : GoodIn wsX8_nearest wsX8_apart := goodIn_r _ [36, 1, 37, 38, 39, 12, 40, 23, 24, 57, 58, 59, 60, 61, 62, 63, 64, 65, 66, 67, 68, 69, 70] rfl (by decide +kernel)
set_option maxRecDepth 20000 in
theorem gX8_nearest_X8_apart : GoodIn wsX8_nearest (wsV RX8 194 RX8 yX8_apart wsX8_apart) := goodIn_app (goodIn_r _ [33, 34, 35, 6] rfl (by decide +kernel)) ggX8_nearest_X8_apart
set_option maxRecDepth 20000 in
theorem ggX8_nearest_X6_sortedAt : GoodIn wsX8_nearest wsX6_sortedAt := goodIn_r _ [40, 23, 24, 68, 69, 70] rfl (by decide +kernel)
set_option maxRecDepth 20000 in
theorem gX8_nearest_X6_sortedAt : GoodIn wsX8_nearest (wsV RX8 168 RX6 yX6_sortedAt wsX6_sortedAt) := goodIn_app (goodIn_r _ [37, 38, 39, 12] rfl (by decide +kernel)) ggX8_nearest_X6_sortedAt
set_option maxRecDepth 20000 in
theorem ggX8_nearest_X8_tell_ : GoodIn wsX8_nearest wsX8_tell_ := goodIn_r _ [44, 45, 46, 47, 48, 49, 50, 51, 52, 53, 54, 55, 56, 57, 58, 59, 60, 61, 62, 63, 64, 65, 66, 67, 71, 72] rfl (by decide +kernel)
set_option maxRecDepth 20000 in
theorem gX8_nearest_X8_tell_ : GoodIn wsX8_nearest (wsV RX8 135 RX8 yX8_tell_ wsX8_tell_) := goodIn_app (goodIn_r _ [41, 42, 43, 6] rfl (by decide +kernel)) ggX8_nearest_X8_tell_
set_option maxRecDepth 20000 in
theorem ggX8_dense_X8_isSpan : GoodIn wsX8_dense wsX8_isSpan := goodIn_r _ [7, 8, 60, 61, 62, 63, 64, 65, 66, 67, 68, 69, 70] rfl (by decide +kernel)
set_option maxRecDepth 20000 in
theorem gX8_dense_X8_isSpan : GoodIn wsX8_dense (wsV RX8 122 RX8 yX8_isSpan wsX8_isSpan) := goodIn_app (goodIn_r _ [3, 4, 5, 6] rfl (by decide +kernel)) ggX8_dense_X8_isSpan
set_option maxRecDepth 20000 in
theorem ggX8_dense_X8_isNumber : GoodIn wsX8_dense wsX8_isNumber := goodIn_r _ [11] rfl (by decide +kernel)
set_option maxRecDepth 20000 in
theorem gX8_dense_X8_isNumber : GoodIn wsX8_dense (va_wsS RX8 108 yX8_isNumber wsX8_isNumber) := goodIn_app (goodIn_r _ [9, 10, 6] rfl (by decide +kernel)) ggX8_dense_X8_isNumber
set_option maxRecDepth 20000 in
theorem ggX8_dense_X6_take : GoodIn wsX8_dense wsX6_take := goodIn_r _ [16, 17, 18, 19, 20, 21, 22, 23, 24, 15, 25, 26, 27, 28, 29, 30, 31, 32, 33, 34, 35, 71, 72, 73] rfl (by decide +kernel)
set_option maxRecDepth 20000 in
theorem gX8_dense_X6_take : GoodIn wsX8_dense (wsV RX8 164 RX6 yX6_take wsX6_take) := goodIn_app (goodIn_r _ [12, 13, 14, 15] rfl (by decide +kernel)) ggX8_dense_X6_take
set_option maxRecDepth 20000 in
theorem ggX8_dense_X8_reachFrom : GoodIn wsX8_dense wsX8_reachFrom := goodIn_r _ [39, 1, 40, 41, 42, 15, 43, 26, 27, 60, 61, 62, 63, 64, 65, 66, 67, 68, 69, 70, 71, 72, 73] rfl (by decide +kernel)
set_option maxRecDepth 20000 in
theorem gX8_dense_X8_reachFrom : GoodIn wsX8_dense (wsV RX8 197 RX8 yX8_reachFrom wsX8_reachFrom) := goodIn_app (goodIn_r _ [36, 37, 38, 6] rfl (by decide +kernel)) ggX8_dense_X8_reachFrom
set_option maxRecDepth 20000 in
theorem ggX8_dense_X6_sortedAt : GoodIn wsX8_dense wsX6_sortedAt := goodIn_r _ [43, 26, 27, 71, 72, 73] rfl (by decide +kernel)
set_option maxRecDepth 20000 in
theorem gX8_dense_X6_sortedAt : GoodIn wsX8_dense (wsV RX8 168 RX6 yX6_sortedAt wsX6_sortedAt) := goodIn_app (goodIn_r _ [40, 41, 42, 15] rfl (by decide +kernel)) ggX8_dense_X6_sortedAt
set_option maxRecDepth 20000 in
theorem ggX8_dense_X8_tell : GoodIn wsX8_dense wsX8_tell := goodIn_r _ [47, 48, 49, 50, 51, 52, 53, 54, 55, 56, 57, 58, 59, 60, 61, 62, 63, 64, 65, 66, 67, 68, 69, 70, 74, 75] rfl (by decide +kernel)
set_option maxRecDepth 20000 in
theorem gX8_dense_X8_tell : GoodIn wsX8_dense (wsV RX8 114 RX8 yX8_tell wsX8_tell) := goodIn_app (goodIn_r _ [44, 45, 46, 6] rfl (by decide +kernel)) ggX8_dense_X8_tell
set_option maxRecDepth 20000 in
theorem ggX8_farthest_X8_isSpan : GoodIn wsX8_farthest wsX8_isSpan := goodIn_r _ [7, 8, 53, 54, 55, 56, 57, 58, 59, 60, 61, 62, 63] rfl (by decide +kernel)
set_option maxRecDepth 20000 in
theorem gX8_farthest_X8_isSpan : GoodIn wsX8_farthest (wsV RX8 122 RX8 yX8_isSpan wsX8_isSpan) := goodIn_app (goodIn_r _ [3, 4, 5, 6] rfl (by decide +kernel)) ggX8_farthest_X8_isSpan
set_option maxRecDepth 20000 in
theorem ggX8_farthest_X8_isNumber : GoodIn wsX8_farthest wsX8_isNumber := goodIn_r _ [11] rfl (by decide +kernel)
set_option maxRecDepth 20000 in
theorem gX8_farthest_X8_isNumber : GoodIn wsX8_farthest (va_wsS RX8 108 yX8_isNumber wsX8_isNumber) := goodIn_app (goodIn_r _ [9, 10, 6] rfl (by decide +kernel)) ggX8_farthest_X8_isNumber
set_option maxRecDepth 20000 in
theorem ggX8_farthest_X6_take : GoodIn wsX8_farthest wsX6_take := goodIn_r _ [16, 17, 18, 19, 20, 21, 22, 23, 24, 15, 25, 26, 27, 28, 29, 30, 31, 32, 33, 34, 35, 64, 65, 66] rfl (by decide +kernel)
set_option maxRecDepth 20000 in
theorem gX8_farthest_X6_take : GoodIn wsX8_farthest (wsV RX8 164 RX6 yX6_take wsX6_take) := goodIn_app (goodIn_r _ [12, 13, 14, 15] rfl (by decide +kernel)) ggX8_farthest_X6_take
set_option maxRecDepth 20000 in
theorem ggX8_farthest_X6_timesOf : GoodIn wsX8_farthest wsX6_timesOf := goodIn_r _ [31, 32, 33, 34, 15, 35, 17, 64, 65, 66] rfl (by decide +kernel)
set_option maxRecDepth 20000 in
theorem gX8_farthest_X6_timesOf : GoodIn wsX8_farthest (wsV RX8 172 RX6 yX6_timesOf wsX6_timesOf) := goodIn_app (goodIn_r _ [36, 29, 30, 15] rfl (by decide +kernel)) ggX8_farthest_X6_timesOf
set_option maxRecDepth 20000 in
theorem ggX8_farthest_X8_tell_ : GoodIn wsX8_farthest wsX8_tell_ := goodIn_r _ [40, 41, 42, 43, 44, 45, 46, 47, 48, 49, 50, 51, 52, 53, 54, 55, 56, 57, 58, 59, 60, 61, 62, 63, 67, 68] rfl (by decide +kernel)
set_option maxRecDepth 20000 in
theorem gX8_farthest_X8_tell_ : GoodIn wsX8_farthest (wsV RX8 135 RX8 yX8_tell_ wsX8_tell_) := goodIn_app (goodIn_r _ [37, 38, 39, 6] rfl (by decide +kernel)) ggX8_farthest_X8_tell_
set_option maxRecDepth 20000 in
theorem ggX8_fit_X8_isSpan : GoodIn wsX8_fit wsX8_isSpan := goodIn_r _ [7, 8, 53, 54, 55, 56, 57, 58, 59, 60, 61, 62, 63] rfl (by decide +kernel)
set_option maxRecDepth 20000 in
theorem gX8_fit_X8_isSpan : GoodIn wsX8_fit (wsV RX8 122 RX8 yX8_isSpan wsX8_isSpan) := goodIn_app (goodIn_r _ [3, 4, 5, 6] rfl (by decide +kernel)) ggX8_fit_X8_isSpan
set_option maxRecDepth 20000 in
theorem ggX8_fit_X6_take : GoodIn wsX8_fit wsX6_take := goodIn_r _ [13, 14, 15, 16, 17, 18, 19, 20, 21, 12, 22, 23, 24, 25, 26, 27, 28, 29, 30, 31, 32, 64, 65, 66] rfl (by decide +kernel)
set_option maxRecDepth 20000 in
theorem gX8_fit_X6_take : GoodIn wsX8_fit (wsV RX8 164 RX6 yX6_take wsX6_take) := goodIn_app (goodIn_r _ [9, 10, 11, 12] rfl (by decide +kernel)) ggX8_fit_X6_take
set_option maxRecDepth 20000 in
theorem ggX8_fit_X6_sortedAt : GoodIn wsX8_fit wsX6_sortedAt := goodIn_r _ [36, 23, 24, 64, 65, 66] rfl (by decide +kernel)
set_option maxRecDepth 20000 in
theorem gX8_fit_X6_sortedAt : GoodIn wsX8_fit (wsV RX8 168 RX6 yX6_sortedAt wsX6_sortedAt) := goodIn_app (goodIn_r _ [33, 34, 35, 12] rfl (by decide +kernel)) ggX8_fit_X6_sortedAt
set_option maxRecDepth 20000 in
theorem ggX8_fit_X8_tell : GoodIn wsX8_fit wsX8_tell := goodIn_r _ [40, 41, 42, 43, 44, 45, 46, 47, 48, 49, 50, 51, 52, 53, 54, 55, 56, 57, 58, 59, 60, 61, 62, 63, 67, 68] rfl (by decide +kernel)
set_option maxRecDepth 20000 in
theorem gX8_fit_X8_tell : GoodIn wsX8_fit (wsV RX8 114 RX8 yX8_tell wsX8_tell) := goodIn_app (goodIn_r _ [37, 38, 39, 6] rfl (by decide +kernel)) ggX8_fit_X8_tell
set_option maxRecDepth 20000 in
theorem ggX8_gap_X8_isSpan : GoodIn wsX8_gap wsX8_isSpan := goodIn_r _ [7, 8, 57, 58, 59, 60, 61, 62, 63, 64, 65, 66, 67] rfl (by decide +kernel)
set_option maxRecDepth 20000 in
theorem gX8_gap_X8_isSpan : GoodIn wsX8_gap (wsV RX8 122 RX8 yX8_isSpan wsX8_isSpan) := goodIn_app (goodIn_r _ [3, 4, 5, 6] rfl (by decide +kernel)) ggX8_gap_X8_isSpan
set_option maxRecDepth 20000 in
theorem ggX8_gap_X6_take : GoodIn wsX8_gap wsX6_take := goodIn_r _ [13, 14, 15, 16, 17, 18, 19, 20, 21, 12, 22, 23, 24, 25, 26, 27, 28, 29, 30, 31, 32, 68, 69, 70] rfl (by decide +kernel)
set_option maxRecDepth 20000 in
theorem gX8_gap_X6_take : GoodIn wsX8_gap (wsV RX8 164 RX6 yX6_take wsX6_take) := goodIn_app (goodIn_r _ [9, 10, 11, 12] rfl (by decide +kernel)) ggX8_gap_X6_take
set_option maxRecDepth 20000 in
theorem ggX8_gap_X8_step : GoodIn wsX8_gap wsX8_step := goodIn_r _ [36, 1, 37, 38, 39, 12, 40, 23, 24, 57, 58, 59, 60, 61, 62, 63, 64, 65, 66, 67, 68, 69, 70] rfl (by decide +kernel)
set_option maxRecDepth 20000 in
theorem gX8_gap_X8_step : GoodIn wsX8_gap (wsV RX8 200 RX8 yX8_step wsX8_step) := goodIn_app (goodIn_r _ [33, 34, 35, 6] rfl (by decide +kernel)) ggX8_gap_X8_step
set_option maxRecDepth 20000 in
theorem ggX8_gap_X6_sortedAt : GoodIn wsX8_gap wsX6_sortedAt := goodIn_r _ [40, 23, 24, 68, 69, 70] rfl (by decide +kernel)
set_option maxRecDepth 20000 in
theorem gX8_gap_X6_sortedAt : GoodIn wsX8_gap (wsV RX8 168 RX6 yX6_sortedAt wsX6_sortedAt) := goodIn_app (goodIn_r _ [37, 38, 39, 12] rfl (by decide +kernel)) ggX8_gap_X6_sortedAt
set_option maxRecDepth 20000 in
theorem ggX8_gap_X8_tell_ : GoodIn wsX8_gap wsX8_tell_ := goodIn_r _ [44, 45, 46, 47, 48, 49, 50, 51, 52, 53, 54, 55, 56, 57, 58, 59, 60, 61, 62, 63, 64, 65, 66, 67, 71, 72] rfl (by decide +kernel)
set_option maxRecDepth 20000 in
theorem gX8_gap_X8_tell_ : GoodIn wsX8_gap (wsV RX8 135 RX8 yX8_tell_ wsX8_tell_) := goodIn_app (goodIn_r _ [41, 42, 43, 6] rfl (by decide +kernel)) ggX8_gap_X8_tell_
set_option maxRecDepth 20000 in
theorem ggX8_narrow_X8_isNumber : GoodIn wsX8_narrow wsX8_isNumber := goodIn_r _ [6] rfl (by decide +kernel)
set_option maxRecDepth 20000 in
theorem gX8_narrow_X8_isNumber : GoodIn wsX8_narrow (va_wsS RX8 108 yX8_isNumber wsX8_isNumber) := goodIn_app (goodIn_r _ [3, 4, 5] rfl (by decide +kernel)) ggX8_narrow_X8_isNumber
set_option maxRecDepth 20000 in
theorem ggX8_narrow_X8_isTimes : GoodIn wsX8_narrow wsX8_isTimes := goodIn_r _ [9] rfl (by decide +kernel)
set_option maxRecDepth 20000 in
theorem gX8_narrow_X8_isTimes : GoodIn wsX8_narrow (va_wsS RX8 185 yX8_isTimes wsX8_isTimes) := goodIn_app (goodIn_r _ [7, 8, 5] rfl (by decide +kernel)) ggX8_narrow_X8_isTimes
set_option maxRecDepth 20000 in
theorem ggX8_narrow_X8_lengthWith : GoodIn wsX8_narrow wsX8_lengthWith := goodIn_r _ [13, 14, 1, 30, 31, 32, 33, 34, 35, 36, 37, 38, 39, 40] rfl (by decide +kernel)
set_option maxRecDepth 20000 in
theorem gX8_narrow_X8_lengthWith : GoodIn wsX8_narrow (wsV RX8 203 RX8 yX8_lengthWith wsX8_lengthWith) := goodIn_app (goodIn_r _ [10, 11, 12, 5] rfl (by decide +kernel)) ggX8_narrow_X8_lengthWith
set_option maxRecDepth 20000 in
theorem ggX8_narrow_X8_tell_ : GoodIn wsX8_narrow wsX8_tell_ := goodIn_r _ [18, 2, 19, 20, 21, 22, 23, 24, 25, 26, 27, 28, 29, 30, 31, 32, 33, 34, 35, 36, 37, 38, 39, 40, 41, 42] rfl (by decide +kernel)
set_option maxRecDepth 20000 in
theorem gX8_narrow_X8_tell_ : GoodIn wsX8_narrow (wsV RX8 135 RX8 yX8_tell_ wsX8_tell_) := goodIn_app (goodIn_r _ [15, 16, 17, 5] rfl (by decide +kernel)) ggX8_narrow_X8_tell_
set_option maxRecDepth 20000 in
theorem ggX8_narrow_X7_add : GoodIn wsX8_narrow wsX7_add := goodIn_r _ [28, 24, 29, 41, 42] rfl (by decide +kernel)
set_option maxRecDepth 20000 in
theorem gX8_narrow_X7_add : GoodIn wsX8_narrow (wsV RX8 155 RX7 yX7_add wsX7_add) := goodIn_app (goodIn_r _ [25, 26, 27, 22] rfl (by decide +kernel)) ggX8_narrow_X7_add
set_option maxRecDepth 20000 in
theorem ggX8_lone_X8_isSpan : GoodIn wsX8_lone wsX8_isSpan := goodIn_r _ [7, 8, 50, 51, 52, 53, 54, 55, 56, 57, 58, 59, 60] rfl (by decide +kernel)
set_option maxRecDepth 20000 in
theorem gX8_lone_X8_isSpan : GoodIn wsX8_lone (wsV RX8 122 RX8 yX8_isSpan wsX8_isSpan) := goodIn_app (goodIn_r _ [3, 4, 5, 6] rfl (by decide +kernel)) ggX8_lone_X8_isSpan
set_option maxRecDepth 20000 in
theorem ggX8_lone_X6_take : GoodIn wsX8_lone wsX6_take := goodIn_r _ [13, 14, 15, 16, 17, 18, 19, 20, 21, 12, 22, 23, 24, 25, 26, 27, 28, 29, 30, 31, 32, 61, 62, 63] rfl (by decide +kernel)
set_option maxRecDepth 20000 in
theorem gX8_lone_X6_take : GoodIn wsX8_lone (wsV RX8 164 RX6 yX6_take wsX6_take) := goodIn_app (goodIn_r _ [9, 10, 11, 12] rfl (by decide +kernel)) ggX8_lone_X6_take
set_option maxRecDepth 20000 in
theorem ggX8_lone_X6_timesOf : GoodIn wsX8_lone wsX6_timesOf := goodIn_r _ [28, 29, 30, 31, 12, 32, 14, 61, 62, 63] rfl (by decide +kernel)
set_option maxRecDepth 20000 in
theorem gX8_lone_X6_timesOf : GoodIn wsX8_lone (wsV RX8 172 RX6 yX6_timesOf wsX6_timesOf) := goodIn_app (goodIn_r _ [33, 26, 27, 12] rfl (by decide +kernel)) ggX8_lone_X6_timesOf
set_option maxRecDepth 20000 in
theorem ggX8_lone_X8_tell_ : GoodIn wsX8_lone wsX8_tell_ := goodIn_r _ [37, 38, 39, 40, 41, 42, 43, 44, 45, 46, 47, 48, 49, 50, 51, 52, 53, 54, 55, 56, 57, 58, 59, 60, 64, 65] rfl (by decide +kernel)
set_option maxRecDepth 20000 in
theorem gX8_lone_X8_tell_ : GoodIn wsX8_lone (wsV RX8 135 RX8 yX8_tell_ wsX8_tell_) := goodIn_app (goodIn_r _ [34, 35, 36, 6] rfl (by decide +kernel)) ggX8_lone_X8_tell_
set_option maxRecDepth 20000 in
theorem ggX8_rises_X8_isSpan : GoodIn wsX8_rises wsX8_isSpan := goodIn_r _ [12, 13, 53, 54, 55, 56, 57, 58, 59, 60, 61, 62, 63] rfl (by decide +kernel)
set_option maxRecDepth 20000 in
theorem gX8_rises_X8_isSpan : GoodIn wsX8_rises (wsV RX8 122 RX8 yX8_isSpan wsX8_isSpan) := goodIn_app (goodIn_r _ [8, 9, 10, 11] rfl (by decide +kernel)) ggX8_rises_X8_isSpan
set_option maxRecDepth 20000 in
theorem ggX8_rises_X0_take : GoodIn wsX8_rises wsX0_take := goodIn_r _ [18, 19, 20, 21, 22, 23, 6, 24, 25, 26, 27, 17, 28, 64, 65, 66] rfl (by decide +kernel)
set_option maxRecDepth 20000 in
theorem gX8_rises_X0_take : GoodIn wsX8_rises (wsV RX8 206 RX0 yX0_take wsX0_take) := goodIn_app (goodIn_r _ [14, 15, 16, 17] rfl (by decide +kernel)) ggX8_rises_X0_take
set_option maxRecDepth 20000 in
theorem ggX8_rises_X0_leastEnd : GoodIn wsX8_rises wsX0_leastEnd := goodIn_r _ [32, 20, 19, 64, 65, 66] rfl (by decide +kernel)
set_option maxRecDepth 20000 in
theorem gX8_rises_X0_leastEnd : GoodIn wsX8_rises (wsV RX8 210 RX0 yX0_leastEnd wsX0_leastEnd) := goodIn_app (goodIn_r _ [29, 30, 31, 17] rfl (by decide +kernel)) ggX8_rises_X0_leastEnd
set_option maxRecDepth 20000 in
theorem ggX8_rises_X0_waysToLongest : GoodIn wsX8_rises wsX0_waysToLongest := goodIn_r _ [36, 20, 19, 21, 64, 65, 66] rfl (by decide +kernel)
set_option maxRecDepth 20000 in
theorem gX8_rises_X0_waysToLongest : GoodIn wsX8_rises (wsV RX8 214 RX0 yX0_waysToLongest wsX0_waysToLongest) := goodIn_app (goodIn_r _ [33, 34, 35, 17] rfl (by decide +kernel)) ggX8_rises_X0_waysToLongest
set_option maxRecDepth 20000 in
theorem ggX8_rises_X8_tell_ : GoodIn wsX8_rises wsX8_tell_ := goodIn_r _ [40, 41, 42, 43, 44, 45, 46, 47, 48, 49, 50, 51, 52, 53, 54, 55, 56, 57, 58, 59, 60, 61, 62, 63, 67, 68] rfl (by decide +kernel)
set_option maxRecDepth 20000 in
theorem gX8_rises_X8_tell_ : GoodIn wsX8_rises (wsV RX8 135 RX8 yX8_tell_ wsX8_tell_) := goodIn_app (goodIn_r _ [37, 38, 39, 11] rfl (by decide +kernel)) ggX8_rises_X8_tell_
set_option maxRecDepth 20000 in
theorem ggX8_marks_X8_isSpan : GoodIn wsX8_marks wsX8_isSpan := goodIn_r _ [7, 8, 23, 24, 25, 26, 27, 28, 29, 30, 31, 32, 33] rfl (by decide +kernel)
set_option maxRecDepth 20000 in
theorem gX8_marks_X8_isSpan : GoodIn wsX8_marks (wsV RX8 122 RX8 yX8_isSpan wsX8_isSpan) := goodIn_app (goodIn_r _ [3, 4, 5, 6] rfl (by decide +kernel)) ggX8_marks_X8_isSpan
set_option maxRecDepth 20000 in
theorem ggX8_marks_X8_isNumber : GoodIn wsX8_marks wsX8_isNumber := goodIn_r _ [11] rfl (by decide +kernel)
set_option maxRecDepth 20000 in
theorem gX8_marks_X8_isNumber : GoodIn wsX8_marks (va_wsS RX8 108 yX8_isNumber wsX8_isNumber) := goodIn_app (goodIn_r _ [9, 10, 6] rfl (by decide +kernel)) ggX8_marks_X8_isNumber
set_option maxRecDepth 20000 in
theorem ggX8_marks_X7_begin : GoodIn wsX8_marks wsX7_begin := goodIn_r _ [16, 17, 34, 35] rfl (by decide +kernel)
set_option maxRecDepth 20000 in
theorem gX8_marks_X7_begin : GoodIn wsX8_marks (wsV RX8 152 RX7 yX7_begin wsX7_begin) := goodIn_app (goodIn_r _ [12, 13, 14, 15] rfl (by decide +kernel)) ggX8_marks_X7_begin
set_option maxRecDepth 20000 in
theorem ggX8_marks_X7_add : GoodIn wsX8_marks wsX7_add := goodIn_r _ [21, 17, 22, 34, 35] rfl (by decide +kernel)
set_option maxRecDepth 20000 in
theorem gX8_marks_X7_add : GoodIn wsX8_marks (wsV RX8 155 RX7 yX7_add wsX7_add) := goodIn_app (goodIn_r _ [18, 19, 20, 15] rfl (by decide +kernel)) ggX8_marks_X7_add
set_option maxRecDepth 20000 in
theorem ggX8_common_X8_takeBoth : GoodIn wsX8_common wsX8_takeBoth := goodIn_r _ [8, 1, 9, 2, 10, 11, 12, 7, 13, 14, 15, 16, 17, 18, 19, 20, 21, 22, 23, 24, 25, 26, 27, 28, 29, 30, 31, 32, 33, 34, 35, 36, 37, 38, 59, 60, 61, 62, 63, 64, 65, 66, 67, 68, 69, 70, 71, 72] rfl (by decide +kernel)
set_option maxRecDepth 20000 in
theorem gX8_common_X8_takeBoth : GoodIn wsX8_common (wsV RX8 226 RX8 yX8_takeBoth wsX8_takeBoth) := goodIn_app (goodIn_r _ [4, 5, 6, 7] rfl (by decide +kernel)) ggX8_common_X8_takeBoth
set_option maxRecDepth 20000 in
theorem ggX8_common_X6_nodesSharedWith : GoodIn wsX8_common wsX6_nodesSharedWith := goodIn_r _ [42, 20, 70, 71, 72] rfl (by decide +kernel)
set_option maxRecDepth 20000 in
theorem gX8_common_X6_nodesSharedWith : GoodIn wsX8_common (wsV RX8 230 RX6 yX6_nodesSharedWith wsX6_nodesSharedWith) := goodIn_app (goodIn_r _ [39, 40, 41, 18] rfl (by decide +kernel)) ggX8_common_X6_nodesSharedWith
set_option maxRecDepth 20000 in
theorem ggX8_common_X8_tell : GoodIn wsX8_common wsX8_tell := goodIn_r _ [46, 3, 47, 48, 49, 50, 51, 52, 53, 54, 55, 56, 57, 59, 60, 61, 62, 63, 64, 65, 66, 67, 68, 69, 73, 74] rfl (by decide +kernel)
set_option maxRecDepth 20000 in
theorem gX8_common_X8_tell : GoodIn wsX8_common (wsV RX8 114 RX8 yX8_tell wsX8_tell) := goodIn_app (goodIn_r _ [43, 44, 45, 7] rfl (by decide +kernel)) ggX8_common_X8_tell
set_option maxRecDepth 20000 in
theorem ggX8_common_X6_timesOf : GoodIn wsX8_common wsX6_timesOf := goodIn_r _ [34, 35, 36, 37, 18, 38, 20, 70, 71, 72] rfl (by decide +kernel)
set_option maxRecDepth 20000 in
theorem gX8_common_X6_timesOf : GoodIn wsX8_common (wsV RX8 172 RX6 yX6_timesOf wsX6_timesOf) := goodIn_app (goodIn_r _ [58, 32, 33, 18] rfl (by decide +kernel)) ggX8_common_X6_timesOf
set_option maxRecDepth 20000 in
theorem ggX8_common_X7_add : GoodIn wsX8_common wsX7_add := goodIn_r _ [56, 52, 57, 73, 74] rfl (by decide +kernel)
set_option maxRecDepth 20000 in
theorem gX8_common_X7_add : GoodIn wsX8_common (wsV RX8 155 RX7 yX7_add wsX7_add) := goodIn_app (goodIn_r _ [53, 54, 55, 50] rfl (by decide +kernel)) ggX8_common_X7_add
set_option maxRecDepth 20000 in
theorem ggX8_lacking_X8_takeBoth : GoodIn wsX8_lacking wsX8_takeBoth := goodIn_r _ [8, 2, 9, 3, 10, 11, 12, 7, 13, 14, 15, 16, 17, 18, 19, 20, 21, 22, 23, 24, 25, 26, 27, 28, 29, 30, 31, 32, 33, 34, 35, 36, 37, 38, 51, 52, 53, 54, 55, 56, 57, 58, 59, 60, 61, 62, 63, 64] rfl (by decide +kernel)
set_option maxRecDepth 20000 in
theorem gX8_lacking_X8_takeBoth : GoodIn wsX8_lacking (wsV RX8 226 RX8 yX8_takeBoth wsX8_takeBoth) := goodIn_app (goodIn_r _ [4, 5, 6, 7] rfl (by decide +kernel)) ggX8_lacking_X8_takeBoth
set_option maxRecDepth 20000 in
theorem ggX8_lacking_X7_begin : GoodIn wsX8_lacking wsX7_begin := goodIn_r _ [43, 44, 65, 66] rfl (by decide +kernel)
set_option maxRecDepth 20000 in
theorem gX8_lacking_X7_begin : GoodIn wsX8_lacking (wsV RX8 152 RX7 yX7_begin wsX7_begin) := goodIn_app (goodIn_r _ [39, 40, 41, 42] rfl (by decide +kernel)) ggX8_lacking_X7_begin
set_option maxRecDepth 20000 in
theorem ggX8_lacking_X6_timesOf : GoodIn wsX8_lacking wsX6_timesOf := goodIn_r _ [34, 35, 36, 37, 18, 38, 20, 62, 63, 64] rfl (by decide +kernel)
set_option maxRecDepth 20000 in
theorem gX8_lacking_X6_timesOf : GoodIn wsX8_lacking (wsV RX8 172 RX6 yX6_timesOf wsX6_timesOf) := goodIn_app (goodIn_r _ [45, 32, 33, 18] rfl (by decide +kernel)) ggX8_lacking_X6_timesOf
set_option maxRecDepth 20000 in
theorem ggX8_lacking_X7_add : GoodIn wsX8_lacking wsX7_add := goodIn_r _ [49, 44, 50, 65, 66] rfl (by decide +kernel)
set_option maxRecDepth 20000 in
theorem gX8_lacking_X7_add : GoodIn wsX8_lacking (wsV RX8 155 RX7 yX7_add wsX7_add) := goodIn_app (goodIn_r _ [46, 47, 48, 42] rfl (by decide +kernel)) ggX8_lacking_X7_add
set_option maxRecDepth 20000 in
theorem ggX8_both_X8_takeBoth : GoodIn wsX8_both wsX8_takeBoth := goodIn_r _ [7, 1, 8, 2, 9, 10, 11, 6, 12, 13, 14, 15, 16, 17, 18, 19, 20, 21, 22, 23, 24, 25, 26, 27, 28, 29, 30, 31, 32, 33, 34, 35, 36, 37, 55, 56, 57, 58, 59, 60, 61, 62, 63, 64, 65, 66, 67, 68] rfl (by decide +kernel)
set_option maxRecDepth 20000 in
theorem gX8_both_X8_takeBoth : GoodIn wsX8_both (wsV RX8 226 RX8 yX8_takeBoth wsX8_takeBoth) := goodIn_app (goodIn_r _ [3, 4, 5, 6] rfl (by decide +kernel)) ggX8_both_X8_takeBoth
set_option maxRecDepth 20000 in
theorem ggX8_both_X6_timesOf : GoodIn wsX8_both wsX6_timesOf := goodIn_r _ [33, 34, 35, 36, 17, 37, 19, 66, 67, 68] rfl (by decide +kernel)
set_option maxRecDepth 20000 in
theorem gX8_both_X6_timesOf : GoodIn wsX8_both (wsV RX8 172 RX6 yX6_timesOf wsX6_timesOf) := goodIn_app (goodIn_r _ [38, 31, 32, 17] rfl (by decide +kernel)) ggX8_both_X6_timesOf
set_option maxRecDepth 20000 in
theorem ggX8_both_X8_tell_ : GoodIn wsX8_both wsX8_tell_ := goodIn_r _ [42, 43, 44, 45, 46, 47, 48, 49, 50, 51, 52, 53, 54, 55, 56, 57, 58, 59, 60, 61, 62, 63, 64, 65, 69, 70] rfl (by decide +kernel)
set_option maxRecDepth 20000 in
theorem gX8_both_X8_tell_ : GoodIn wsX8_both (wsV RX8 135 RX8 yX8_tell_ wsX8_tell_) := goodIn_app (goodIn_r _ [39, 40, 41, 6] rfl (by decide +kernel)) ggX8_both_X8_tell_
set_option maxRecDepth 20000 in
theorem ggX8_same_X8_takeBoth : GoodIn wsX8_same wsX8_takeBoth := goodIn_r _ [12, 1, 13, 2, 14, 15, 16, 11, 17, 18, 19, 20, 21, 22, 23, 24, 25, 26, 27, 28, 29, 30, 31, 32, 33, 34, 35, 36, 37, 38, 39, 40, 41, 42, 59, 60, 61, 62, 63, 64, 65, 66, 67, 68, 69, 70, 71, 72] rfl (by decide +kernel)
set_option maxRecDepth 20000 in
theorem gX8_same_X8_takeBoth : GoodIn wsX8_same (wsV RX8 226 RX8 yX8_takeBoth wsX8_takeBoth) := goodIn_app (goodIn_r _ [8, 9, 10, 11] rfl (by decide +kernel)) ggX8_same_X8_takeBoth
set_option maxRecDepth 20000 in
theorem ggX8_same_X6_timesOf : GoodIn wsX8_same wsX6_timesOf := goodIn_r _ [38, 39, 40, 41, 22, 42, 24, 70, 71, 72] rfl (by decide +kernel)
set_option maxRecDepth 20000 in
theorem gX8_same_X6_timesOf : GoodIn wsX8_same (wsV RX8 172 RX6 yX6_timesOf wsX6_timesOf) := goodIn_app (goodIn_r _ [43, 36, 37, 22] rfl (by decide +kernel)) ggX8_same_X6_timesOf
set_option maxRecDepth 20000 in
theorem ggX8_same_X8_tell_ : GoodIn wsX8_same wsX8_tell_ := goodIn_r _ [47, 7, 48, 49, 50, 51, 52, 53, 54, 55, 56, 57, 58, 59, 60, 61, 62, 63, 64, 65, 66, 67, 68, 69, 73, 74] rfl (by decide +kernel)
set_option maxRecDepth 20000 in
theorem gX8_same_X8_tell_ : GoodIn wsX8_same (wsV RX8 135 RX8 yX8_tell_ wsX8_tell_) := goodIn_app (goodIn_r _ [44, 45, 46, 11] rfl (by decide +kernel)) ggX8_same_X8_tell_
set_option maxRecDepth 20000 in
theorem ggX8_same_X7_add : GoodIn wsX8_same wsX7_add := goodIn_r _ [57, 53, 58, 73, 74] rfl (by decide +kernel)
set_option maxRecDepth 20000 in
theorem gX8_same_X7_add : GoodIn wsX8_same (wsV RX8 155 RX7 yX7_add wsX7_add) := goodIn_app (goodIn_r _ [54, 55, 56, 51] rfl (by decide +kernel)) ggX8_same_X7_add
set_option maxRecDepth 20000 in
theorem ggX8_count_X8_unlikeNumbers : GoodIn wsX8_count wsX8_unlikeNumbers := goodIn_r _ [8, 1, 9, 10, 11, 12, 7, 13, 29, 30, 31, 32, 33, 34, 35, 36, 37, 38, 39] rfl (by decide +kernel)
set_option maxRecDepth 20000 in
theorem gX8_count_X8_unlikeNumbers : GoodIn wsX8_count (wsV RX8 238 RX8 yX8_unlikeNumbers wsX8_unlikeNumbers) := goodIn_app (goodIn_r _ [4, 5, 6, 7] rfl (by decide +kernel)) ggX8_count_X8_unlikeNumbers
set_option maxRecDepth 20000 in
theorem ggX8_count_X8_sumOfAll : GoodIn wsX8_count wsX8_sumOfAll := goodIn_r _ [17, 1, 9, 29, 30, 31, 32, 33, 34, 35, 36, 37, 38, 39] rfl (by decide +kernel)
set_option maxRecDepth 20000 in
theorem gX8_count_X8_sumOfAll : GoodIn wsX8_count (wsV RX8 241 RX8 yX8_sumOfAll wsX8_sumOfAll) := goodIn_app (goodIn_r _ [14, 15, 16, 7] rfl (by decide +kernel)) ggX8_count_X8_sumOfAll
set_option maxRecDepth 20000 in
theorem ggX8_count_X8_onesOfAll : GoodIn wsX8_count wsX8_onesOfAll := goodIn_r _ [21, 1, 9, 22, 23, 24, 25, 26, 27, 28, 29, 30, 31, 32, 33, 34, 35, 36, 37, 38, 39] rfl (by decide +kernel)
set_option maxRecDepth 20000 in
theorem gX8_count_X8_onesOfAll : GoodIn wsX8_count (wsV RX8 244 RX8 yX8_onesOfAll wsX8_onesOfAll) := goodIn_app (goodIn_r _ [18, 19, 20, 7] rfl (by decide +kernel)) ggX8_count_X8_onesOfAll
set_option maxRecDepth 20000 in
theorem ggX8_settle_X2_forget : GoodIn wsX8_settle wsX2_forget := goodIn_r _ [9, 10, 57, 58, 59, 60, 61, 62, 63, 64, 65] rfl (by decide +kernel)
set_option maxRecDepth 20000 in
theorem gX8_settle_X2_forget : GoodIn wsX8_settle (wsV RX8 257 RX2 yX2_forget wsX2_forget) := goodIn_app (goodIn_r _ [5, 6, 7, 8] rfl (by decide +kernel)) ggX8_settle_X2_forget
set_option maxRecDepth 20000 in
theorem ggX8_settle_X1_remake : GoodIn wsX8_settle wsX1_remake := goodIn_r _ [15, 16, 17, 18, 19, 20, 14, 21, 22, 23, 24, 25, 26, 27, 28, 29, 30, 31, 32, 33, 34, 35, 36, 37, 38, 39, 40, 41, 42, 43, 44, 45, 66, 67, 68, 69] rfl (by decide +kernel)
set_option maxRecDepth 20000 in
theorem gX8_settle_X1_remake : GoodIn wsX8_settle (wsV RX8 260 RX1 yX1_remake wsX1_remake) := goodIn_app (goodIn_r _ [11, 12, 13, 14] rfl (by decide +kernel)) ggX8_settle_X1_remake
set_option maxRecDepth 20000 in
theorem ggX8_tell_X7_begin : GoodIn wsX8_tell wsX7_begin := goodIn_r _ [6, 7, 24, 25] rfl (by decide +kernel)
set_option maxRecDepth 20000 in
theorem gX8_tell_X7_begin : GoodIn wsX8_tell (wsV RX8 152 RX7 yX7_begin wsX7_begin) := goodIn_app (goodIn_r _ [2, 3, 4, 5] rfl (by decide +kernel)) ggX8_tell_X7_begin
set_option maxRecDepth 20000 in
theorem ggX8_tell_X7_add : GoodIn wsX8_tell wsX7_add := goodIn_r _ [11, 7, 12, 24, 25] rfl (by decide +kernel)
set_option maxRecDepth 20000 in
theorem gX8_tell_X7_add : GoodIn wsX8_tell (wsV RX8 155 RX7 yX7_add wsX7_add) := goodIn_app (goodIn_r _ [8, 9, 10, 5] rfl (by decide +kernel)) ggX8_tell_X7_add
set_option maxRecDepth 20000 in
theorem ggX8_tell__X7_begin : GoodIn wsX8_tell_ wsX7_begin := goodIn_r _ [6, 7, 24, 25] rfl (by decide +kernel)
set_option maxRecDepth 20000 in
theorem gX8_tell__X7_begin : GoodIn wsX8_tell_ (wsV RX8 152 RX7 yX7_begin wsX7_begin) := goodIn_app (goodIn_r _ [2, 3, 4, 5] rfl (by decide +kernel)) ggX8_tell__X7_begin
set_option maxRecDepth 20000 in
theorem ggX8_tell__X7_add : GoodIn wsX8_tell_ wsX7_add := goodIn_r _ [11, 7, 12, 24, 25] rfl (by decide +kernel)
set_option maxRecDepth 20000 in
theorem gX8_tell__X7_add : GoodIn wsX8_tell_ (wsV RX8 155 RX7 yX7_add wsX7_add) := goodIn_app (goodIn_r _ [8, 9, 10, 5] rfl (by decide +kernel)) ggX8_tell__X7_add
set_option maxRecDepth 20000 in
theorem ggX8_takeBoth_X8_isSpan : GoodIn wsX8_takeBoth wsX8_isSpan := goodIn_r _ [8, 9, 34, 35, 36, 37, 38, 39, 40, 41, 42, 43, 44] rfl (by decide +kernel)
set_option maxRecDepth 20000 in
theorem gX8_takeBoth_X8_isSpan : GoodIn wsX8_takeBoth (wsV RX8 122 RX8 yX8_isSpan wsX8_isSpan) := goodIn_app (goodIn_r _ [4, 5, 6, 7] rfl (by decide +kernel)) ggX8_takeBoth_X8_isSpan
set_option maxRecDepth 20000 in
theorem ggX8_takeBoth_X6_take : GoodIn wsX8_takeBoth wsX6_take := goodIn_r _ [14, 15, 16, 17, 18, 19, 20, 21, 22, 13, 23, 24, 25, 26, 27, 28, 29, 30, 31, 32, 33, 45, 46, 47] rfl (by decide +kernel)
set_option maxRecDepth 20000 in
theorem gX8_takeBoth_X6_take : GoodIn wsX8_takeBoth (wsV RX8 164 RX6 yX6_take wsX6_take) := goodIn_app (goodIn_r _ [10, 11, 12, 13] rfl (by decide +kernel)) ggX8_takeBoth_X6_take
set_option maxRecDepth 20000 in
theorem ggX8_apart_X6_sortedAt : GoodIn wsX8_apart wsX6_sortedAt := goodIn_r _ [6, 7, 8, 20, 21, 22] rfl (by decide +kernel)
set_option maxRecDepth 20000 in
theorem gX8_apart_X6_sortedAt : GoodIn wsX8_apart (wsV RX8 168 RX6 yX6_sortedAt wsX6_sortedAt) := goodIn_app (goodIn_r _ [2, 3, 4, 5] rfl (by decide +kernel)) ggX8_apart_X6_sortedAt
set_option maxRecDepth 20000 in
theorem ggX8_step_X6_sortedAt : GoodIn wsX8_step wsX6_sortedAt := goodIn_r _ [6, 7, 8, 20, 21, 22] rfl (by decide +kernel)
set_option maxRecDepth 20000 in
theorem gX8_step_X6_sortedAt : GoodIn wsX8_step (wsV RX8 168 RX6 yX6_sortedAt wsX6_sortedAt) := goodIn_app (goodIn_r _ [2, 3, 4, 5] rfl (by decide +kernel)) ggX8_step_X6_sortedAt
set_option maxRecDepth 20000 in
theorem ggX8_reachFrom_X6_sortedAt : GoodIn wsX8_reachFrom wsX6_sortedAt := goodIn_r _ [6, 7, 8, 20, 21, 22] rfl (by decide +kernel)
set_option maxRecDepth 20000 in
theorem gX8_reachFrom_X6_sortedAt : GoodIn wsX8_reachFrom (wsV RX8 168 RX6 yX6_sortedAt wsX6_sortedAt) := goodIn_app (goodIn_r _ [2, 3, 4, 5] rfl (by decide +kernel)) ggX8_reachFrom_X6_sortedAt
set_option maxRecDepth 20000 in
theorem ggX8_unlikeNumbers_X8_timesIn : GoodIn wsX8_unlikeNumbers wsX8_timesIn := goodIn_r _ [7, 2, 8, 9, 10, 11, 12, 13, 14, 15, 16, 17, 18] rfl (by decide +kernel)
set_option maxRecDepth 20000 in
theorem gX8_unlikeNumbers_X8_timesIn : GoodIn wsX8_unlikeNumbers (wsV RX8 178 RX8 yX8_timesIn wsX8_timesIn) := goodIn_app (goodIn_r _ [3, 4, 5, 6] rfl (by decide +kernel)) ggX8_unlikeNumbers_X8_timesIn
set_option maxRecDepth 20000 in
theorem ggX8_onesOfAll_J6_bitCount_0f7a4 : GoodIn wsX8_onesOfAll wsJ6_bitCount_0f7a4 := goodIn_r _ [6, 7, 8, 9] rfl (by decide +kernel)
set_option maxRecDepth 20000 in
theorem gX8_onesOfAll_J6_bitCount_0f7a4 : GoodIn wsX8_onesOfAll (va_wsS RX8 264 yJ6_bitCount_0f7a4 wsJ6_bitCount_0f7a4) := goodIn_app (goodIn_r _ [3, 4, 5] rfl (by decide +kernel)) ggX8_onesOfAll_J6_bitCount_0f7a4
set_option maxRecDepth 20000 in
theorem ggX8_runsOf_X8_lowest : GoodIn wsX8_runsOf wsX8_lowest := goodIn_r _ [4, 5] rfl (by decide +kernel)
set_option maxRecDepth 20000 in
theorem gX8_runsOf_X8_lowest : GoodIn wsX8_runsOf (va_wsS RX8 270 yX8_lowest wsX8_lowest) := goodIn_app (goodIn_r _ [1, 2, 3] rfl (by decide +kernel)) ggX8_runsOf_X8_lowest
set_option maxRecDepth 20000 in
theorem ggX8_runsOf_J13_bitCount_95d88 : GoodIn wsX8_runsOf wsJ13_bitCount_95d88 := goodIn_r _ [9, 10, 11, 12] rfl (by decide +kernel)
set_option maxRecDepth 20000 in
theorem gX8_runsOf_J13_bitCount_95d88 : GoodIn wsX8_runsOf (va_wsS RX8 138 yJ13_bitCount_95d88 wsJ13_bitCount_95d88) := goodIn_app (goodIn_r _ [6, 7, 8] rfl (by decide +kernel)) ggX8_runsOf_J13_bitCount_95d88
set_option maxRecDepth 20000 in
theorem ggX8_nextSpot_X8_lowest : GoodIn wsX8_nextSpot wsX8_lowest := goodIn_r _ [4, 5] rfl (by decide +kernel)
set_option maxRecDepth 20000 in
theorem gX8_nextSpot_X8_lowest : GoodIn wsX8_nextSpot (va_wsS RX8 270 yX8_lowest wsX8_lowest) := goodIn_app (goodIn_r _ [1, 2, 3] rfl (by decide +kernel)) ggX8_nextSpot_X8_lowest
set_option maxRecDepth 20000 in
theorem ggX8_nextSpot_J13_bitCount_95d88 : GoodIn wsX8_nextSpot wsJ13_bitCount_95d88 := goodIn_r _ [9, 10, 11, 12] rfl (by decide +kernel)
set_option maxRecDepth 20000 in
theorem gX8_nextSpot_J13_bitCount_95d88 : GoodIn wsX8_nextSpot (va_wsS RX8 138 yJ13_bitCount_95d88 wsJ13_bitCount_95d88) := goodIn_app (goodIn_r _ [6, 7, 8] rfl (by decide +kernel)) ggX8_nextSpot_J13_bitCount_95d88
set_option maxRecDepth 20000 in
theorem ggX8_nextSpot_X8_bitAt : GoodIn wsX8_nextSpot wsX8_bitAt := goodIn_r _ [15] rfl (by decide +kernel)
set_option maxRecDepth 20000 in
theorem gX8_nextSpot_X8_bitAt : GoodIn wsX8_nextSpot (va_wsS RX8 274 yX8_bitAt wsX8_bitAt) := goodIn_app (goodIn_r _ [13, 14, 3] rfl (by decide +kernel)) ggX8_nextSpot_X8_bitAt
set_option maxRecDepth 20000 in
theorem ggX8_spotIn_X8_nextSpot : GoodIn wsX8_spotIn wsX8_nextSpot := goodIn_r _ [4, 5, 6, 3, 7, 8, 9, 10, 11, 12, 13, 14, 15, 16, 17, 18] rfl (by decide +kernel)
set_option maxRecDepth 20000 in
theorem gX8_spotIn_X8_nextSpot : GoodIn wsX8_spotIn (va_wsS RX8 277 yX8_nextSpot wsX8_nextSpot) := goodIn_app (goodIn_r _ [1, 2, 3] rfl (by decide +kernel)) ggX8_spotIn_X8_nextSpot
set_option maxRecDepth 20000 in
theorem ggX8_numberIn_X8_bitAt : GoodIn wsX8_numberIn wsX8_bitAt := goodIn_r _ [4] rfl (by decide +kernel)
set_option maxRecDepth 20000 in
theorem gX8_numberIn_X8_bitAt : GoodIn wsX8_numberIn (va_wsS RX8 274 yX8_bitAt wsX8_bitAt) := goodIn_app (goodIn_r _ [1, 2, 3] rfl (by decide +kernel)) ggX8_numberIn_X8_bitAt
set_option maxRecDepth 20000 in
theorem ggX8_numberIn_X8_nextSpot : GoodIn wsX8_numberIn wsX8_nextSpot := goodIn_r _ [7, 8, 9, 3, 10, 11, 12, 13, 14, 15, 16, 17, 18, 1, 2, 4] rfl (by decide +kernel)
set_option maxRecDepth 20000 in
theorem gX8_numberIn_X8_nextSpot : GoodIn wsX8_numberIn (va_wsS RX8 277 yX8_nextSpot wsX8_nextSpot) := goodIn_app (goodIn_r _ [5, 6, 3] rfl (by decide +kernel)) ggX8_numberIn_X8_nextSpot
set_option maxRecDepth 20000 in
theorem ggX9_end_X9_in : GoodIn wsX9_end wsX9_in := goodIn_r _ [6] rfl (by decide +kernel)
set_option maxRecDepth 20000 in
theorem gX9_end_X9_in : GoodIn wsX9_end (va_wsS RX9 21 yX9_in wsX9_in) := goodIn_app (goodIn_r _ [3, 4, 5] rfl (by decide +kernel)) ggX9_end_X9_in
set_option maxRecDepth 20000 in
theorem ggX9_takes_X9_flag : GoodIn wsX9_takes wsX9_flag := goodIn_r _ [7] rfl (by decide +kernel)
set_option maxRecDepth 20000 in
theorem gX9_takes_X9_flag : GoodIn wsX9_takes (va_wsS RX9 31 yX9_flag wsX9_flag) := goodIn_app (goodIn_r _ [4, 5, 6] rfl (by decide +kernel)) ggX9_takes_X9_flag
set_option maxRecDepth 20000 in
theorem ggX9_isDigit_X9_in : GoodIn wsX9_isDigit wsX9_in := goodIn_r _ [9] rfl (by decide +kernel)
set_option maxRecDepth 20000 in
theorem gX9_isDigit_X9_in : GoodIn wsX9_isDigit (va_wsS RX9 21 yX9_in wsX9_in) := goodIn_app (goodIn_r _ [6, 7, 8] rfl (by decide +kernel)) ggX9_isDigit_X9_in
set_option maxRecDepth 20000 in
theorem ggX9_number_X9_isDigit : GoodIn wsX9_number wsX9_isDigit := goodIn_r _ [7, 2, 8, 1, 9, 10, 11, 12, 6, 13, 14, 15, 16, 17, 18, 19, 20, 21, 22, 23, 24, 25, 26, 27, 28, 29, 30, 31, 32, 33, 34, 35, 36, 37] rfl (by decide +kernel)
set_option maxRecDepth 20000 in
theorem gX9_number_X9_isDigit : GoodIn wsX9_number (wsV RX9 39 RX9 yX9_isDigit wsX9_isDigit) := goodIn_app (goodIn_r _ [3, 4, 5, 6] rfl (by decide +kernel)) ggX9_number_X9_isDigit
set_option maxRecDepth 20000 in
theorem ggX9_number_X9_in : GoodIn wsX9_number wsX9_in := goodIn_r _ [13] rfl (by decide +kernel)
set_option maxRecDepth 20000 in
theorem gX9_number_X9_in : GoodIn wsX9_number (va_wsS RX9 21 yX9_in wsX9_in) := goodIn_app (goodIn_r _ [11, 12, 6] rfl (by decide +kernel)) ggX9_number_X9_in
set_option maxRecDepth 20000 in
theorem ggX9_isNumber_X9_in : GoodIn wsX9_isNumber wsX9_in := goodIn_r _ [5] rfl (by decide +kernel)
set_option maxRecDepth 20000 in
theorem gX9_isNumber_X9_in : GoodIn wsX9_isNumber (va_wsS RX9 21 yX9_in wsX9_in) := goodIn_app (goodIn_r _ [2, 3, 4] rfl (by decide +kernel)) ggX9_isNumber_X9_in
set_option maxRecDepth 20000 in
theorem ggX9_isPlace_X9_in : GoodIn wsX9_isPlace wsX9_in := goodIn_r _ [5] rfl (by decide +kernel)
set_option maxRecDepth 20000 in
theorem gX9_isPlace_X9_in : GoodIn wsX9_isPlace (va_wsS RX9 21 yX9_in wsX9_in) := goodIn_app (goodIn_r _ [2, 3, 4] rfl (by decide +kernel)) ggX9_isPlace_X9_in
set_option maxRecDepth 20000 in
theorem ggX9_readsPart_X9_number : GoodIn wsX9_readsPart wsX9_number := goodIn_r _ [10, 4, 1, 11, 12, 13, 9, 14, 3, 15, 16, 17, 18, 19, 27, 28, 29, 30, 31, 32, 33, 34, 35, 36, 37, 38, 39, 40, 41, 42, 43, 44, 45, 46, 47, 48, 49, 50] rfl (by decide +kernel)
set_option maxRecDepth 20000 in
theorem gX9_readsPart_X9_number : GoodIn wsX9_readsPart (wsV RX9 96 RX9 yX9_number wsX9_number) := goodIn_app (goodIn_r _ [6, 7, 8, 9] rfl (by decide +kernel)) ggX9_readsPart_X9_number
set_option maxRecDepth 20000 in
theorem ggX9_readsPart_X9_takes : GoodIn wsX9_readsPart wsX9_takes := goodIn_r _ [23, 1, 3, 4, 24, 25, 9, 26, 27, 28, 29, 30, 31, 32, 33, 34, 35, 36, 37, 38, 39, 40, 41, 42, 43, 44, 45, 46, 47, 48, 49, 50] rfl (by decide +kernel)
set_option maxRecDepth 20000 in
theorem gX9_readsPart_X9_takes : GoodIn wsX9_readsPart (wsV RX9 99 RX9 yX9_takes wsX9_takes) := goodIn_app (goodIn_r _ [20, 21, 22, 9] rfl (by decide +kernel)) ggX9_readsPart_X9_takes
set_option maxRecDepth 20000 in
theorem ggX9_column_X9_reads : GoodIn wsX9_column wsX9_reads := goodIn_r _ [10, 11, 3, 4, 43, 44, 45, 46, 47, 48, 49, 50, 51, 52, 53, 54, 55, 56, 57, 58, 59, 60, 61, 62, 63, 64, 65, 66] rfl (by decide +kernel)
set_option maxRecDepth 20000 in
theorem gX9_column_X9_reads : GoodIn wsX9_column (wsV RX9 103 RX9 yX9_reads wsX9_reads) := goodIn_app (goodIn_r _ [6, 7, 8, 9] rfl (by decide +kernel)) ggX9_column_X9_reads
set_option maxRecDepth 20000 in
theorem ggX9_column_X9_readsPart : GoodIn wsX9_column wsX9_readsPart := goodIn_r _ [15, 4, 2, 3, 16, 17, 18, 19, 20, 9, 21, 22, 23, 24, 25, 26, 27, 28, 29, 30, 31, 32, 33, 34, 35, 36, 37, 43, 44, 45, 46, 47, 48, 49, 50, 51, 52, 53, 54, 55, 56, 57, 58, 59, 60, 61, 62, 63, 64, 65, 66] rfl (by decide +kernel)
set_option maxRecDepth 20000 in
theorem gX9_column_X9_readsPart : GoodIn wsX9_column (wsV RX9 106 RX9 yX9_readsPart wsX9_readsPart) := goodIn_app (goodIn_r _ [12, 13, 14, 9] rfl (by decide +kernel)) ggX9_column_X9_readsPart
set_option maxRecDepth 20000 in
theorem ggX9_column_X9_takes : GoodIn wsX9_column wsX9_takes := goodIn_r _ [34, 4, 3, 16, 35, 36, 9, 37, 43, 44, 45, 46, 47, 48, 49, 50, 51, 52, 53, 54, 55, 56, 57, 58, 59, 60, 61, 62, 63, 64, 65, 66] rfl (by decide +kernel)
set_option maxRecDepth 20000 in
theorem gX9_column_X9_takes : GoodIn wsX9_column (wsV RX9 99 RX9 yX9_takes wsX9_takes) := goodIn_app (goodIn_r _ [31, 32, 33, 9] rfl (by decide +kernel)) ggX9_column_X9_takes
set_option maxRecDepth 20000 in
theorem ggX9_column_X9_becomesRead : GoodIn wsX9_column wsX9_becomesRead := goodIn_r _ [41, 2, 5, 42, 17, 43, 44, 45, 46, 47, 48, 49, 50, 51, 52, 53, 54, 55, 56, 57, 58, 59, 60, 61, 62, 63, 64, 65, 66] rfl (by decide +kernel)
set_option maxRecDepth 20000 in
theorem gX9_column_X9_becomesRead : GoodIn wsX9_column (wsV RX9 109 RX9 yX9_becomesRead wsX9_becomesRead) := goodIn_app (goodIn_r _ [38, 39, 40, 9] rfl (by decide +kernel)) ggX9_column_X9_becomesRead
set_option maxRecDepth 20000 in
theorem ggX9_readsRow_X9_takes : GoodIn wsX9_readsRow wsX9_takes := goodIn_r _ [10, 1, 2, 3, 11, 12, 9, 13, 14, 15, 16, 17, 18, 19, 20, 21, 22, 23, 24, 25, 26, 27, 28, 29, 30, 31, 32, 33, 34, 35, 36, 37] rfl (by decide +kernel)
set_option maxRecDepth 20000 in
theorem gX9_readsRow_X9_takes : GoodIn wsX9_readsRow (wsV RX9 99 RX9 yX9_takes wsX9_takes) := goodIn_app (goodIn_r _ [6, 7, 8, 9] rfl (by decide +kernel)) ggX9_readsRow_X9_takes
set_option maxRecDepth 20000 in
theorem ggX9_planes_X9_reads : GoodIn wsX9_planes wsX9_reads := goodIn_r _ [11, 12, 13, 3, 31, 32, 33, 34, 35, 36, 37, 38, 39, 40, 41, 42, 43, 44, 45, 46, 47, 48, 49, 50, 51, 52, 53, 54] rfl (by decide +kernel)
set_option maxRecDepth 20000 in
theorem gX9_planes_X9_reads : GoodIn wsX9_planes (wsV RX9 103 RX9 yX9_reads wsX9_reads) := goodIn_app (goodIn_r _ [7, 8, 9, 10] rfl (by decide +kernel)) ggX9_planes_X9_reads
set_option maxRecDepth 20000 in
theorem ggX9_planes_X9_readsRow : GoodIn wsX9_planes wsX9_readsRow := goodIn_r _ [17, 3, 13, 18, 2, 4, 19, 20, 21, 10, 22, 23, 24, 25, 31, 32, 33, 34, 35, 36, 37, 38, 39, 40, 41, 42, 43, 44, 45, 46, 47, 48, 49, 50, 51, 52, 53, 54] rfl (by decide +kernel)
set_option maxRecDepth 20000 in
theorem gX9_planes_X9_readsRow : GoodIn wsX9_planes (wsV RX9 112 RX9 yX9_readsRow wsX9_readsRow) := goodIn_app (goodIn_r _ [14, 15, 16, 10] rfl (by decide +kernel)) ggX9_planes_X9_readsRow
set_option maxRecDepth 20000 in
theorem ggX9_planes_X9_flag : GoodIn wsX9_planes wsX9_flag := goodIn_r _ [25] rfl (by decide +kernel)
set_option maxRecDepth 20000 in
theorem gX9_planes_X9_flag : GoodIn wsX9_planes (va_wsS RX9 31 yX9_flag wsX9_flag) := goodIn_app (goodIn_r _ [23, 24, 10] rfl (by decide +kernel)) ggX9_planes_X9_flag
set_option maxRecDepth 20000 in
theorem ggX9_planes_X9_becomesRead : GoodIn wsX9_planes wsX9_becomesRead := goodIn_r _ [29, 2, 6, 30, 5, 31, 32, 33, 34, 35, 36, 37, 38, 39, 40, 41, 42, 43, 44, 45, 46, 47, 48, 49, 50, 51, 52, 53, 54] rfl (by decide +kernel)
set_option maxRecDepth 20000 in
theorem gX9_planes_X9_becomesRead : GoodIn wsX9_planes (wsV RX9 109 RX9 yX9_becomesRead wsX9_becomesRead) := goodIn_app (goodIn_r _ [26, 27, 28, 10] rfl (by decide +kernel)) ggX9_planes_X9_becomesRead
set_option maxRecDepth 20000 in
theorem ggX9_laysLevel_X9_begins : GoodIn wsX9_laysLevel wsX9_begins := goodIn_r _ [5, 6, 7, 14, 15, 16, 17, 18, 19, 20, 21, 22, 23, 24, 25, 26, 27, 28, 29, 30, 31, 32, 33, 34, 35, 36, 37] rfl (by decide +kernel)
set_option maxRecDepth 20000 in
theorem gX9_laysLevel_X9_begins : GoodIn wsX9_laysLevel (wsV RX9 115 RX9 yX9_begins wsX9_begins) := goodIn_app (goodIn_r _ [1, 2, 3, 4] rfl (by decide +kernel)) ggX9_laysLevel_X9_begins
set_option maxRecDepth 20000 in
theorem ggX9_laysLevel_X9_parts : GoodIn wsX9_laysLevel wsX9_parts := goodIn_r _ [11, 6, 12, 7, 13, 14, 15, 16, 17, 18, 19, 20, 21, 22, 23, 24, 25, 26, 27, 28, 29, 30, 31, 32, 33, 34, 35, 36, 37] rfl (by decide +kernel)
set_option maxRecDepth 20000 in
theorem gX9_laysLevel_X9_parts : GoodIn wsX9_laysLevel (wsV RX9 118 RX9 yX9_parts wsX9_parts) := goodIn_app (goodIn_r _ [8, 9, 10, 4] rfl (by decide +kernel)) ggX9_laysLevel_X9_parts
set_option maxRecDepth 20000 in
theorem ggX9_runsOf_X9_flag : GoodIn wsX9_runsOf wsX9_flag := goodIn_r _ [7] rfl (by decide +kernel)
set_option maxRecDepth 20000 in
theorem gX9_runsOf_X9_flag : GoodIn wsX9_runsOf (va_wsS RX9 31 yX9_flag wsX9_flag) := goodIn_app (goodIn_r _ [4, 5, 6] rfl (by decide +kernel)) ggX9_runsOf_X9_flag
set_option maxRecDepth 20000 in
theorem ggX9_keepsBits_X9_laysLevel : GoodIn wsX9_keepsBits wsX9_laysLevel := goodIn_r _ [9, 10, 11, 12, 8, 13, 1, 4, 14, 15, 16, 17, 3, 18, 22, 23, 24, 25, 26, 27, 28, 29, 30, 31, 32, 33, 34, 35, 36, 37, 38, 39, 40, 41, 42, 43, 44, 45] rfl (by decide +kernel)
set_option maxRecDepth 20000 in
theorem gX9_keepsBits_X9_laysLevel : GoodIn wsX9_keepsBits (wsV RX9 122 RX9 yX9_laysLevel wsX9_laysLevel) := goodIn_app (goodIn_r _ [5, 6, 7, 8] rfl (by decide +kernel)) ggX9_keepsBits_X9_laysLevel
set_option maxRecDepth 20000 in
theorem ggX9_keepsBits_X9_bitOf : GoodIn wsX9_keepsBits wsX9_bitOf := goodIn_r _ [21] rfl (by decide +kernel)
set_option maxRecDepth 20000 in
theorem gX9_keepsBits_X9_bitOf : GoodIn wsX9_keepsBits (va_wsS RX9 125 yX9_bitOf wsX9_bitOf) := goodIn_app (goodIn_r _ [19, 20, 8] rfl (by decide +kernel)) ggX9_keepsBits_X9_bitOf
set_option maxRecDepth 20000 in
theorem ggX9_otherBits_X9_laysLevel : GoodIn wsX9_otherBits wsX9_laysLevel := goodIn_r _ [9, 10, 11, 12, 8, 13, 1, 4, 14, 15, 16, 17, 3, 18, 25, 26, 27, 28, 29, 30, 31, 32, 33, 34, 35, 36, 37, 38, 39, 40, 41, 42, 43, 44, 45, 46, 47, 48] rfl (by decide +kernel)
set_option maxRecDepth 20000 in
theorem gX9_otherBits_X9_laysLevel : GoodIn wsX9_otherBits (wsV RX9 122 RX9 yX9_laysLevel wsX9_laysLevel) := goodIn_app (goodIn_r _ [5, 6, 7, 8] rfl (by decide +kernel)) ggX9_otherBits_X9_laysLevel
set_option maxRecDepth 20000 in
theorem ggX9_otherBits_X9_bitOf : GoodIn wsX9_otherBits wsX9_bitOf := goodIn_r _ [21] rfl (by decide +kernel)
set_option maxRecDepth 20000 in
theorem gX9_otherBits_X9_bitOf : GoodIn wsX9_otherBits (va_wsS RX9 125 yX9_bitOf wsX9_bitOf) := goodIn_app (goodIn_r _ [19, 20, 8] rfl (by decide +kernel)) ggX9_otherBits_X9_bitOf
set_option maxRecDepth 20000 in
theorem ggX9_otherBits_X9_flag : GoodIn wsX9_otherBits wsX9_flag := goodIn_r _ [24] rfl (by decide +kernel)
set_option maxRecDepth 20000 in
theorem gX9_otherBits_X9_flag : GoodIn wsX9_otherBits (va_wsS RX9 31 yX9_flag wsX9_flag) := goodIn_app (goodIn_r _ [22, 23, 8] rfl (by decide +kernel)) ggX9_otherBits_X9_flag
set_option maxRecDepth 20000 in
theorem ggX9_adds_X9_isNumber : GoodIn wsX9_adds wsX9_isNumber := goodIn_r _ [7, 8, 9, 10, 6, 11] rfl (by decide +kernel)
set_option maxRecDepth 20000 in
theorem gX9_adds_X9_isNumber : GoodIn wsX9_adds (va_wsS RX9 129 yX9_isNumber wsX9_isNumber) := goodIn_app (goodIn_r _ [4, 5, 6] rfl (by decide +kernel)) ggX9_adds_X9_isNumber
set_option maxRecDepth 20000 in
theorem ggX9_puts_X9_isNumber : GoodIn wsX9_puts wsX9_isNumber := goodIn_r _ [7, 8, 9, 10, 6, 11] rfl (by decide +kernel)
set_option maxRecDepth 20000 in
theorem gX9_puts_X9_isNumber : GoodIn wsX9_puts (va_wsS RX9 129 yX9_isNumber wsX9_isNumber) := goodIn_app (goodIn_r _ [4, 5, 6] rfl (by decide +kernel)) ggX9_puts_X9_isNumber
set_option maxRecDepth 20000 in
theorem ggX9_puts_X9_isPlace : GoodIn wsX9_puts wsX9_isPlace := goodIn_r _ [15, 16, 9, 10, 6, 11, 51, 52, 53, 54, 55, 56, 57, 58, 59, 60, 61, 62, 63, 64, 65, 66, 67, 68, 69, 70, 71, 72, 73, 74] rfl (by decide +kernel)
set_option maxRecDepth 20000 in
theorem gX9_puts_X9_isPlace : GoodIn wsX9_puts (wsV RX9 132 RX9 yX9_isPlace wsX9_isPlace) := goodIn_app (goodIn_r _ [12, 13, 14, 6] rfl (by decide +kernel)) ggX9_puts_X9_isPlace
set_option maxRecDepth 20000 in
theorem ggX9_puts_X9_keepsBits : GoodIn wsX9_puts wsX9_keepsBits := goodIn_r _ [20, 16, 21, 2, 22, 23, 24, 25, 6, 26, 27, 28, 29, 30, 31, 32, 33, 34, 35, 36, 37, 38, 51, 52, 53, 54, 55, 56, 57, 58, 59, 60, 61, 62, 63, 64, 65, 66, 67, 68, 69, 70, 71, 72, 73, 74] rfl (by decide +kernel)
set_option maxRecDepth 20000 in
theorem gX9_puts_X9_keepsBits : GoodIn wsX9_puts (wsV RX9 135 RX9 yX9_keepsBits wsX9_keepsBits) := goodIn_app (goodIn_r _ [17, 18, 19, 6] rfl (by decide +kernel)) ggX9_puts_X9_keepsBits
set_option maxRecDepth 20000 in
theorem ggX9_puts_X9_otherBits : GoodIn wsX9_puts wsX9_otherBits := goodIn_r _ [42, 16, 21, 2, 22, 23, 24, 25, 6, 26, 27, 28, 29, 30, 31, 32, 33, 34, 35, 36, 37, 38, 43, 44, 45, 51, 52, 53, 54, 55, 56, 57, 58, 59, 60, 61, 62, 63, 64, 65, 66, 67, 68, 69, 70, 71, 72, 73, 74] rfl (by decide +kernel)
set_option maxRecDepth 20000 in
theorem gX9_puts_X9_otherBits : GoodIn wsX9_puts (wsV RX9 138 RX9 yX9_otherBits wsX9_otherBits) := goodIn_app (goodIn_r _ [39, 40, 41, 6] rfl (by decide +kernel)) ggX9_puts_X9_otherBits
set_option maxRecDepth 20000 in
theorem ggX9_puts_X9_enters : GoodIn wsX9_puts wsX9_enters := goodIn_r _ [49, 50, 3, 51, 52, 53, 54, 55, 56, 57, 58, 59, 60, 61, 62, 63, 64, 65, 66, 67, 68, 69, 70, 71, 72, 73, 74] rfl (by decide +kernel)
set_option maxRecDepth 20000 in
theorem gX9_puts_X9_enters : GoodIn wsX9_puts (wsV RX9 142 RX9 yX9_enters wsX9_enters) := goodIn_app (goodIn_r _ [46, 47, 48, 6] rfl (by decide +kernel)) ggX9_puts_X9_enters
set_option maxRecDepth 20000 in
theorem ggX9_cuts_X9_isPlace : GoodIn wsX9_cuts wsX9_isPlace := goodIn_r _ [8, 3, 9, 10, 7, 11, 12, 13, 14, 15, 16, 17, 18, 19, 20, 21, 22, 23, 24, 25, 26, 27, 28, 29, 30, 31, 32, 33, 34, 35] rfl (by decide +kernel)
set_option maxRecDepth 20000 in
theorem gX9_cuts_X9_isPlace : GoodIn wsX9_cuts (wsV RX9 132 RX9 yX9_isPlace wsX9_isPlace) := goodIn_app (goodIn_r _ [4, 5, 6, 7] rfl (by decide +kernel)) ggX9_cuts_X9_isPlace
set_option maxRecDepth 20000 in
theorem ggX9_swaps_X9_isPlace : GoodIn wsX9_swaps wsX9_isPlace := goodIn_r _ [6, 7, 8, 9, 5, 10, 45, 46, 47, 48, 49, 50, 51, 52, 53, 54, 55, 56, 57, 58, 59, 60, 61, 62, 63, 64, 65, 66, 67, 68] rfl (by decide +kernel)
set_option maxRecDepth 20000 in
theorem gX9_swaps_X9_isPlace : GoodIn wsX9_swaps (wsV RX9 132 RX9 yX9_isPlace wsX9_isPlace) := goodIn_app (goodIn_r _ [2, 3, 4, 5] rfl (by decide +kernel)) ggX9_swaps_X9_isPlace
set_option maxRecDepth 20000 in
theorem ggX9_swaps_X9_keepsBits : GoodIn wsX9_swaps wsX9_keepsBits := goodIn_r _ [14, 7, 15, 16, 17, 18, 19, 20, 5, 21, 22, 23, 24, 25, 26, 27, 28, 29, 30, 31, 32, 33, 45, 46, 47, 48, 49, 50, 51, 52, 53, 54, 55, 56, 57, 58, 59, 60, 61, 62, 63, 64, 65, 66, 67, 68] rfl (by decide +kernel)
set_option maxRecDepth 20000 in
theorem gX9_swaps_X9_keepsBits : GoodIn wsX9_swaps (wsV RX9 135 RX9 yX9_keepsBits wsX9_keepsBits) := goodIn_app (goodIn_r _ [11, 12, 13, 5] rfl (by decide +kernel)) ggX9_swaps_X9_keepsBits
set_option maxRecDepth 20000 in
theorem ggX9_swaps_X9_exchanges : GoodIn wsX9_swaps wsX9_exchanges := goodIn_r _ [37, 16, 45, 46, 47, 48, 49, 50, 51, 52, 53, 54, 55, 56, 57, 58, 59, 60, 61, 62, 63, 64, 65, 66, 67, 68] rfl (by decide +kernel)
set_option maxRecDepth 20000 in
theorem gX9_swaps_X9_exchanges : GoodIn wsX9_swaps (wsV RX9 146 RX9 yX9_exchanges wsX9_exchanges) := goodIn_app (goodIn_r _ [34, 35, 36, 5] rfl (by decide +kernel)) ggX9_swaps_X9_exchanges
set_option maxRecDepth 20000 in
theorem ggX9_swaps_X9_otherBits : GoodIn wsX9_swaps wsX9_otherBits := goodIn_r _ [41, 7, 15, 16, 17, 18, 19, 20, 5, 21, 22, 23, 24, 25, 26, 27, 28, 29, 30, 31, 32, 33, 42, 43, 44, 45, 46, 47, 48, 49, 50, 51, 52, 53, 54, 55, 56, 57, 58, 59, 60, 61, 62, 63, 64, 65, 66, 67, 68] rfl (by decide +kernel)
set_option maxRecDepth 20000 in
theorem gX9_swaps_X9_otherBits : GoodIn wsX9_swaps (wsV RX9 138 RX9 yX9_otherBits wsX9_otherBits) := goodIn_app (goodIn_r _ [38, 39, 40, 5] rfl (by decide +kernel)) ggX9_swaps_X9_otherBits
set_option maxRecDepth 20000 in
theorem ggX9_reverses_X9_isSpan : GoodIn wsX9_reverses wsX9_isSpan := goodIn_r _ [6, 7, 42, 43, 44, 45, 46, 47, 48, 49, 50, 51, 52, 53, 54, 55, 56, 57, 58, 59, 60, 61, 62, 63, 64, 65] rfl (by decide +kernel)
set_option maxRecDepth 20000 in
theorem gX9_reverses_X9_isSpan : GoodIn wsX9_reverses (wsV RX9 150 RX9 yX9_isSpan wsX9_isSpan) := goodIn_app (goodIn_r _ [2, 3, 4, 5] rfl (by decide +kernel)) ggX9_reverses_X9_isSpan
