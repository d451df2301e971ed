set_option maxRecDepth 20000 in
theorem ggX2_eliminate_X2_carry : GoodIn wsX2_eliminate wsX2_carry := goodIn_r _ [11, 5, 1, 3, 6, 4, 47, 48, 49, 50, 51, 52, 53, 54, 55, 56, 57, 58, 59, 60, 61, 62, 63, 64, 65] rfl (by decide +kernel)
set_option maxRecDepth 20000 in
theorem gX2_eliminate_X2_carry : GoodIn wsX2_eliminate (wsV RX2 86 RX2 yX2_carry wsX2_carry) := goodIn_app (goodIn_of _ (by decide +kernel)) ggX2_eliminate_X2_carry
set_option maxRecDepth 20000 in
theorem ggX2_eliminate_X2_size : GoodIn wsX2_eliminate wsX2_size := goodIn_r _ [14] rfl (by decide +kernel)
set_option maxRecDepth 20000 in
theorem gX2_eliminate_X2_size : GoodIn wsX2_eliminate (va_wsS RX2 90 yX2_size wsX2_size) := goodIn_app (goodIn_of _ (by decide +kernel)) ggX2_eliminate_X2_size
set_option maxRecDepth 20000 in
theorem ggX2_eliminate_X2_areBeside : GoodIn wsX2_eliminate wsX2_areBeside := goodIn_r _ [18, 4, 2, 47, 48, 49, 50, 51, 52, 53, 54, 55, 56, 57, 58, 59, 60, 61, 62, 63, 64, 65] rfl (by decide +kernel)
set_option maxRecDepth 20000 in
theorem gX2_eliminate_X2_areBeside : GoodIn wsX2_eliminate (wsV RX2 94 RX2 yX2_areBeside wsX2_areBeside) := goodIn_app (goodIn_of _ (by decide +kernel)) ggX2_eliminate_X2_areBeside
set_option maxRecDepth 20000 in
theorem ggX2_eliminate_X2_combine : GoodIn wsX2_eliminate wsX2_combine := goodIn_r _ [22, 3, 23, 24, 25, 26, 5, 1, 6, 4, 27, 28, 29, 10, 30, 31, 32, 33, 34, 35, 36, 37, 38, 39, 40, 41, 42, 43, 44, 45, 46, 47, 48, 49, 50, 51, 52, 53, 54, 55, 56, 57, 58, 59, 60, 61, 62, 63, 64, 65] rfl (by decide +kernel)
set_option maxRecDepth 20000 in
theorem gX2_eliminate_X2_combine : GoodIn wsX2_eliminate (wsV RX2 97 RX2 yX2_combine wsX2_combine) := goodIn_app (goodIn_of _ (by decide +kernel)) ggX2_eliminate_X2_combine
set_option maxRecDepth 20000 in
theorem ggX2_eliminateAll_X2_eliminate : GoodIn wsX2_eliminateAll wsX2_eliminate := goodIn_r _ [5, 6, 7, 8, 9, 10, 11, 12, 13, 14, 4, 15, 16, 17, 18, 19, 20, 21, 22, 23, 24, 25, 26, 27, 28, 29, 30, 31, 32, 33, 34, 35, 36, 37, 38, 39, 40, 41, 42, 43, 44, 45, 46, 47, 48, 49, 50, 51, 52, 53, 54, 55, 56, 57, 58, 59, 60, 61, 62, 63, 64, 65, 66, 67, 68, 69] rfl (by decide +kernel)
set_option maxRecDepth 20000 in
theorem gX2_eliminateAll_X2_eliminate : GoodIn wsX2_eliminateAll (wsV RX2 101 RX2 yX2_eliminate wsX2_eliminate) := goodIn_app (goodIn_of _ (by decide +kernel)) ggX2_eliminateAll_X2_eliminate
set_option maxRecDepth 20000 in
theorem ggX2_hasTurn_X2_beginRows : GoodIn wsX2_hasTurn wsX2_beginRows := goodIn_r _ [5, 6, 7, 8, 9, 10, 11, 12, 13, 4, 14, 15, 70, 71, 72, 73, 74, 75, 76, 77, 78, 79, 80, 81, 82, 83, 84, 85, 86, 87, 88] rfl (by decide +kernel)
set_option maxRecDepth 20000 in
theorem gX2_hasTurn_X2_beginRows : GoodIn wsX2_hasTurn (wsV RX2 105 RX2 yX2_beginRows wsX2_beginRows) := goodIn_app (goodIn_of _ (by decide +kernel)) ggX2_hasTurn_X2_beginRows
set_option maxRecDepth 20000 in
theorem ggX2_hasTurn_X2_eliminateAll : GoodIn wsX2_hasTurn wsX2_eliminateAll := goodIn_r _ [19, 20, 21, 22, 4, 23, 24, 6, 9, 15, 25, 26, 27, 28, 29, 30, 31, 32, 33, 34, 35, 36, 37, 38, 39, 40, 41, 42, 43, 44, 45, 46, 47, 48, 49, 50, 51, 52, 53, 54, 55, 56, 57, 58, 59, 60, 61, 62, 63, 64, 65, 70, 71, 72, 73, 74, 75, 76, 77, 78, 79, 80, 81, 82, 83, 84, 85, 86, 87, 88] rfl (by decide +kernel)
set_option maxRecDepth 20000 in
theorem gX2_hasTurn_X2_eliminateAll : GoodIn wsX2_hasTurn (wsV RX2 108 RX2 yX2_eliminateAll wsX2_eliminateAll) := goodIn_app (goodIn_of _ (by decide +kernel)) ggX2_hasTurn_X2_eliminateAll
set_option maxRecDepth 20000 in
theorem ggX2_hasTurn_X2_isPossible : GoodIn wsX2_hasTurn wsX2_isPossible := goodIn_r _ [69, 6, 9, 70, 71, 72, 73, 74, 75, 76, 77, 78, 79, 80, 81, 82, 83, 84, 85, 86, 87, 88] rfl (by decide +kernel)
set_option maxRecDepth 20000 in
theorem gX2_hasTurn_X2_isPossible : GoodIn wsX2_hasTurn (wsV RX2 111 RX2 yX2_isPossible wsX2_isPossible) := goodIn_app (goodIn_of _ (by decide +kernel)) ggX2_hasTurn_X2_isPossible
set_option maxRecDepth 20000 in
theorem ggX2_ranked_X2_hasTurn : GoodIn wsX2_ranked wsX2_hasTurn := goodIn_r _ [9, 10, 11, 12, 8, 13, 14, 1, 2, 3, 4, 15, 16, 17, 18, 19, 20, 21, 22, 23, 24, 25, 26, 27, 28, 29, 30, 31, 32, 33, 34, 35, 36, 37, 38, 39, 40, 41, 42, 43, 44, 45, 46, 47, 48, 49, 50, 51, 52, 53, 54, 55, 56, 57, 58, 59, 60, 61, 62, 63, 64, 65, 66, 67, 68, 69, 70, 71, 72, 73, 74, 75, 76, 77, 78, 79, 80, 81, 82, 83, 84, 85, 86, 87, 88, 89, 90, 91, 92] rfl (by decide +kernel)
set_option maxRecDepth 20000 in
theorem gX2_ranked_X2_hasTurn : GoodIn wsX2_ranked (wsV RX2 115 RX2 yX2_hasTurn wsX2_hasTurn) := goodIn_app (goodIn_of _ (by decide +kernel)) ggX2_ranked_X2_hasTurn
set_option maxRecDepth 20000 in
theorem ggX2_ranked_X2_beginRows : GoodIn wsX2_ranked wsX2_beginRows := goodIn_r _ [13, 14, 1, 2, 3, 4, 15, 16, 17, 8, 18, 19, 74, 75, 76, 77, 78, 79, 80, 81, 82, 83, 84, 85, 86, 87, 88, 89, 90, 91, 92] rfl (by decide +kernel)
set_option maxRecDepth 20000 in
theorem gX2_ranked_X2_beginRows : GoodIn wsX2_ranked (wsV RX2 105 RX2 yX2_beginRows wsX2_beginRows) := goodIn_app (goodIn_of _ (by decide +kernel)) ggX2_ranked_X2_beginRows
set_option maxRecDepth 20000 in
theorem ggX2_ranked_X2_empty : GoodIn wsX2_ranked wsX2_empty := goodIn_r _ [18, 3, 14, 19, 74, 75, 76, 77, 78, 79, 80, 81, 82, 83, 84, 85, 86, 87, 88, 89, 90, 91, 92] rfl (by decide +kernel)
set_option maxRecDepth 20000 in
theorem gX2_ranked_X2_empty : GoodIn wsX2_ranked (wsV RX2 49 RX2 yX2_empty wsX2_empty) := goodIn_app (goodIn_of _ (by decide +kernel)) ggX2_ranked_X2_empty
set_option maxRecDepth 20000 in
theorem ggX2_ranked_X2_eliminateAll : GoodIn wsX2_ranked wsX2_eliminateAll := goodIn_r _ [23, 24, 25, 26, 8, 27, 28, 14, 3, 19, 29, 30, 31, 32, 33, 34, 35, 36, 37, 38, 39, 40, 41, 42, 43, 44, 45, 46, 47, 48, 49, 50, 51, 52, 53, 54, 55, 56, 57, 58, 59, 60, 61, 62, 63, 64, 65, 66, 67, 68, 69, 74, 75, 76, 77, 78, 79, 80, 81, 82, 83, 84, 85, 86, 87, 88, 89, 90, 91, 92] rfl (by decide +kernel)
set_option maxRecDepth 20000 in
theorem gX2_ranked_X2_eliminateAll : GoodIn wsX2_ranked (wsV RX2 108 RX2 yX2_eliminateAll wsX2_eliminateAll) := goodIn_app (goodIn_of _ (by decide +kernel)) ggX2_ranked_X2_eliminateAll
set_option maxRecDepth 20000 in
theorem ggX2_ranked_X2_isPossible : GoodIn wsX2_ranked wsX2_isPossible := goodIn_r _ [73, 14, 3, 74, 75, 76, 77, 78, 79, 80, 81, 82, 83, 84, 85, 86, 87, 88, 89, 90, 91, 92] rfl (by decide +kernel)
set_option maxRecDepth 20000 in
theorem gX2_ranked_X2_isPossible : GoodIn wsX2_ranked (wsV RX2 111 RX2 yX2_isPossible wsX2_isPossible) := goodIn_app (goodIn_of _ (by decide +kernel)) ggX2_ranked_X2_isPossible
set_option maxRecDepth 20000 in
theorem ggX2_search_X2_beginRows : GoodIn wsX2_search wsX2_beginRows := goodIn_r _ [12, 5, 13, 1, 2, 14, 15, 16, 17, 11, 18, 19, 78, 79, 80, 81, 82, 83, 84, 85, 86, 87, 88, 89, 90, 91, 92, 93, 94, 95, 96] rfl (by decide +kernel)
set_option maxRecDepth 20000 in
theorem gX2_search_X2_beginRows : GoodIn wsX2_search (wsV RX2 105 RX2 yX2_beginRows wsX2_beginRows) := goodIn_app (goodIn_of _ (by decide +kernel)) ggX2_search_X2_beginRows
set_option maxRecDepth 20000 in
theorem ggX2_search_X2_empty : GoodIn wsX2_search wsX2_empty := goodIn_r _ [18, 2, 5, 19, 78, 79, 80, 81, 82, 83, 84, 85, 86, 87, 88, 89, 90, 91, 92, 93, 94, 95, 96] rfl (by decide +kernel)
set_option maxRecDepth 20000 in
theorem gX2_search_X2_empty : GoodIn wsX2_search (wsV RX2 49 RX2 yX2_empty wsX2_empty) := goodIn_app (goodIn_of _ (by decide +kernel)) ggX2_search_X2_empty
set_option maxRecDepth 20000 in
theorem ggX2_search_X2_eliminateAll : GoodIn wsX2_search wsX2_eliminateAll := goodIn_r _ [23, 24, 25, 26, 11, 27, 28, 5, 2, 19, 29, 30, 31, 32, 33, 34, 35, 36, 37, 38, 39, 40, 41, 42, 43, 44, 45, 46, 47, 48, 49, 50, 51, 52, 53, 54, 55, 56, 57, 58, 59, 60, 61, 62, 63, 64, 65, 66, 67, 68, 69, 78, 79, 80, 81, 82, 83, 84, 85, 86, 87, 88, 89, 90, 91, 92, 93, 94, 95, 96] rfl (by decide +kernel)
set_option maxRecDepth 20000 in
theorem gX2_search_X2_eliminateAll : GoodIn wsX2_search (wsV RX2 108 RX2 yX2_eliminateAll wsX2_eliminateAll) := goodIn_app (goodIn_of _ (by decide +kernel)) ggX2_search_X2_eliminateAll
set_option maxRecDepth 20000 in
theorem ggX2_search_X2_isPossible : GoodIn wsX2_search wsX2_isPossible := goodIn_r _ [73, 5, 2, 78, 79, 80, 81, 82, 83, 84, 85, 86, 87, 88, 89, 90, 91, 92, 93, 94, 95, 96] rfl (by decide +kernel)
set_option maxRecDepth 20000 in
theorem gX2_search_X2_isPossible : GoodIn wsX2_search (wsV RX2 111 RX2 yX2_isPossible wsX2_isPossible) := goodIn_app (goodIn_of _ (by decide +kernel)) ggX2_search_X2_isPossible
set_option maxRecDepth 20000 in
theorem ggX2_search_X2_isGreater : GoodIn wsX2_search wsX2_isGreater := goodIn_r _ [77, 2, 48, 49, 50, 51, 52, 11, 53, 54, 55, 56, 57, 58, 59, 60, 61, 78, 79, 80, 81, 82, 83, 84, 85, 86, 87, 88, 89, 90, 91, 92, 93, 94, 95, 96] rfl (by decide +kernel)
set_option maxRecDepth 20000 in
theorem gX2_search_X2_isGreater : GoodIn wsX2_search (wsV RX2 120 RX2 yX2_isGreater wsX2_isGreater) := goodIn_app (goodIn_of _ (by decide +kernel)) ggX2_search_X2_isGreater
set_option maxRecDepth 20000 in
theorem ggX2_isGreater_X2_make : GoodIn wsX2_isGreater wsX2_make := goodIn_r _ [8, 2, 3, 9, 10, 7, 11, 12, 13, 14, 15, 16, 17, 18, 19, 20, 21, 22, 23, 24, 25, 26, 27, 28, 29, 30, 31, 32, 33, 34, 35] rfl (by decide +kernel)
set_option maxRecDepth 20000 in
theorem gX2_isGreater_X2_make : GoodIn wsX2_isGreater (wsV RX2 72 RX2 yX2_make wsX2_make) := goodIn_app (goodIn_of _ (by decide +kernel)) ggX2_isGreater_X2_make
