set_option maxRecDepth 20000 in
theorem ggX11_measured_X11_isSheet : GoodIn wsX11_measured wsX11_isSheet := goodIn_r _ [10, 11, 2, 12, 13, 9, 14] (by decide +kernel) (by decide +kernel)
set_option maxRecDepth 20000 in
theorem gX11_measured_X11_isSheet : GoodIn wsX11_measured (va_wsS RX11 381 yX11_isSheet wsX11_isSheet) := goodIn_app (goodIn_of _ (by decide +kernel)) ggX11_measured_X11_isSheet
set_option maxRecDepth 20000 in
theorem ggX11_measured_X11_in : GoodIn wsX11_measured wsX11_in := goodIn_r _ [14] (by decide +kernel) (by decide +kernel)
set_option maxRecDepth 20000 in
theorem gX11_measured_X11_in : GoodIn wsX11_measured (va_wsS RX11 141 yX11_in wsX11_in) := goodIn_app (goodIn_of _ (by decide +kernel)) ggX11_measured_X11_in
set_option maxRecDepth 20000 in
theorem ggX11_count_X11_deadOnes : GoodIn wsX11_count wsX11_deadOnes := goodIn_r _ [10, 1, 11, 24, 25, 26, 27, 28, 29, 30, 31, 32, 33, 34, 35, 36, 37, 38, 39, 40, 41, 42, 43, 44, 45, 46, 47, 48, 49, 50, 51, 52, 53, 54, 55, 56, 57, 58, 59, 60, 61, 62, 63, 64, 65, 66, 67, 68, 69, 70, 71, 72, 73, 74, 75, 76, 77, 78, 79, 80, 81, 82] (by decide +kernel) (by decide +kernel)
set_option maxRecDepth 20000 in
theorem gX11_count_X11_deadOnes : GoodIn wsX11_count (wsV RX11 324 RX11 yX11_deadOnes wsX11_deadOnes) := goodIn_app (goodIn_of _ (by decide +kernel)) ggX11_count_X11_deadOnes
set_option maxRecDepth 20000 in
theorem ggX11_count_X11_countOf : GoodIn wsX11_count wsX11_countOf := goodIn_r _ [14] (by decide +kernel) (by decide +kernel)
set_option maxRecDepth 20000 in
theorem gX11_count_X11_countOf : GoodIn wsX11_count (va_wsS RX11 378 yX11_countOf wsX11_countOf) := goodIn_app (goodIn_of _ (by decide +kernel)) ggX11_count_X11_countOf
set_option maxRecDepth 20000 in
theorem ggX11_count_X11_ways : GoodIn wsX11_count wsX11_ways := goodIn_r _ [18, 1, 19, 20, 21, 9, 22, 23, 24, 25, 26, 27, 28, 29, 30, 31, 32, 33, 34, 35, 36, 37, 38, 39, 40, 41, 42, 43, 44, 45, 46, 47, 48, 49, 50, 51, 52, 53, 54, 55, 56, 57, 58, 59, 60, 61, 62, 63, 64, 65, 66, 67, 68, 69, 70, 71, 72, 73, 74, 75, 76, 77, 78, 79, 80, 81, 82] (by decide +kernel) (by decide +kernel)
set_option maxRecDepth 20000 in
theorem gX11_count_X11_ways : GoodIn wsX11_count (wsV RX11 343 RX11 yX11_ways wsX11_ways) := goodIn_app (goodIn_of _ (by decide +kernel)) ggX11_count_X11_ways

