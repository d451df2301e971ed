set_option maxRecDepth 20000 in
theorem ggX2_least_X2_isSmall : GoodIn wsX2_least wsX2_isSmall := goodIn_r _ [10] rfl (by decide +kernel)
set_option maxRecDepth 20000 in
theorem gX2_least_X2_isSmall : GoodIn wsX2_least (va_wsS RX2 42 yX2_isSmall wsX2_isSmall) := goodIn_app (goodIn_of _ (by decide +kernel)) ggX2_least_X2_isSmall
set_option maxRecDepth 20000 in
theorem ggX2_least_X2_search : GoodIn wsX2_least wsX2_search := goodIn_r _ [14, 15, 16, 1, 17, 18, 3, 5, 19, 20, 21, 9, 22, 23, 24, 25, 26, 27, 28, 29, 30, 31, 32, 33, 34, 35, 36, 37, 38, 39, 40, 41, 42, 43, 44, 45, 46, 47, 48, 49, 50, 51, 52, 53, 54, 55, 56, 57, 58, 59, 60, 61, 62, 63, 64, 65, 66, 67, 68, 69, 70, 71, 72, 73, 74, 75, 76, 77, 78, 79, 80, 81, 82, 83, 84, 85, 86, 87, 88, 89, 90, 91, 92, 93, 94, 95, 96, 97, 98, 99, 100, 101, 102, 103, 104, 105, 106] rfl (by decide +kernel)
set_option maxRecDepth 20000 in
theorem gX2_least_X2_search : GoodIn wsX2_least (wsV RX2 129 RX2 yX2_search wsX2_search) := goodIn_app (goodIn_of _ (by decide +kernel)) ggX2_least_X2_search
