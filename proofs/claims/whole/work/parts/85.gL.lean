set_option maxRecDepth 20000 in
theorem ggL_law_X1_init : GoodIn wsL_law wsX1_init := goodIn_r _ [8, 9, 10, 11, 12, 13, 14, 15, 16, 17, 18, 19, 20, 21, 22, 23, 24, 25, 26, 27, 28, 29, 30, 31, 32, 33, 34, 35, 36, 376, 377, 378, 379, 380, 381, 382, 402, 403, 404, 405, 406, 407, 408] rfl (by decide +kernel)
set_option maxRecDepth 20000 in
theorem gL_law_X1_init : GoodIn wsL_law (wsX1_init) := ggL_law_X1_init
set_option maxRecDepth 20000 in
theorem ggL_law_X2_init : GoodIn wsL_law wsX2_init := goodIn_r _ [39, 40, 10, 11, 41, 13, 42, 29, 43, 44, 45, 46, 47, 48, 49, 383, 384, 385, 386, 387, 388, 389, 390, 391, 392, 393, 394, 395, 396, 397, 398, 399, 400, 401] rfl (by decide +kernel)
set_option maxRecDepth 20000 in
theorem gL_law_X2_init : GoodIn wsL_law (wsX2_init) := ggL_law_X2_init
set_option maxRecDepth 20000 in
theorem ggL_law_X1_begin : GoodIn wsL_law wsX1_begin := goodIn_r _ [53, 20, 21, 376, 377, 378, 379, 380, 381, 382] rfl (by decide +kernel)
set_option maxRecDepth 20000 in
theorem gL_law_X1_begin : GoodIn wsL_law (wsV RL 13 RX1 yX1_begin wsX1_begin) := goodIn_app (goodIn_of _ (by decide +kernel)) ggL_law_X1_begin
set_option maxRecDepth 20000 in
theorem ggL_law_X2_begin : GoodIn wsL_law wsX2_begin := goodIn_r _ [57, 41, 58, 383, 384, 385, 386, 387, 388, 389, 390, 391, 392, 393, 394, 395, 396, 397, 398, 399, 400, 401] rfl (by decide +kernel)
set_option maxRecDepth 20000 in
theorem gL_law_X2_begin : GoodIn wsL_law (wsV RL 17 RX2 yX2_begin wsX2_begin) := goodIn_app (goodIn_of _ (by decide +kernel)) ggL_law_X2_begin
set_option maxRecDepth 20000 in
theorem ggL_law_X1_rule : GoodIn wsL_law wsX1_rule := goodIn_r _ [62, 21, 14, 63, 64, 2, 65, 66, 67, 68, 69, 70, 71, 376, 377, 378, 379, 380, 381, 382] rfl (by decide +kernel)
set_option maxRecDepth 20000 in
theorem gL_law_X1_rule : GoodIn wsL_law (wsV RL 18 RX1 yX1_rule wsX1_rule) := goodIn_app (goodIn_of _ (by decide +kernel)) ggL_law_X1_rule
set_option maxRecDepth 20000 in
theorem ggL_law_X2_rule : GoodIn wsL_law wsX2_rule := goodIn_r _ [75, 58, 42, 76, 77, 5, 78, 383, 384, 385, 386, 387, 388, 389, 390, 391, 392, 393, 394, 395, 396, 397, 398, 399, 400, 401] rfl (by decide +kernel)
set_option maxRecDepth 20000 in
theorem gL_law_X2_rule : GoodIn wsL_law (wsV RL 22 RX2 yX2_rule wsX2_rule) := goodIn_app (goodIn_of _ (by decide +kernel)) ggL_law_X2_rule
set_option maxRecDepth 20000 in
theorem ggL_law_X1_drop : GoodIn wsL_law wsX1_drop := goodIn_r _ [82, 21, 14, 83, 84, 85, 86, 87, 88, 89, 2, 90, 376, 377, 378, 379, 380, 381, 382] rfl (by decide +kernel)
set_option maxRecDepth 20000 in
theorem gL_law_X1_drop : GoodIn wsL_law (wsV RL 23 RX1 yX1_drop wsX1_drop) := goodIn_app (goodIn_of _ (by decide +kernel)) ggL_law_X1_drop
set_option maxRecDepth 20000 in
theorem ggL_law_X2_drop : GoodIn wsL_law wsX2_drop := goodIn_r _ [94, 58, 42, 383, 384, 385, 386, 387, 388, 389, 390, 391, 392, 393, 394, 395, 396, 397, 398, 399, 400, 401] rfl (by decide +kernel)
set_option maxRecDepth 20000 in
theorem gL_law_X2_drop : GoodIn wsL_law (wsV RL 26 RX2 yX2_drop wsX2_drop) := goodIn_app (goodIn_of _ (by decide +kernel)) ggL_law_X2_drop
set_option maxRecDepth 20000 in
theorem ggL_law_X1_rules : GoodIn wsL_law wsX1_rules := goodIn_r _ [98, 21, 376, 377, 378, 379, 380, 381, 382] rfl (by decide +kernel)
set_option maxRecDepth 20000 in
theorem gL_law_X1_rules : GoodIn wsL_law (wsV RL 27 RX1 yX1_rules wsX1_rules) := goodIn_app (goodIn_of _ (by decide +kernel)) ggL_law_X1_rules
set_option maxRecDepth 20000 in
theorem ggL_law_X2_rules : GoodIn wsL_law wsX2_rules := goodIn_r _ [102, 58, 383, 384, 385, 386, 387, 388, 389, 390, 391, 392, 393, 394, 395, 396, 397, 398, 399, 400, 401] rfl (by decide +kernel)
set_option maxRecDepth 20000 in
theorem gL_law_X2_rules : GoodIn wsL_law (wsV RL 31 RX2 yX2_rules wsX2_rules) := goodIn_app (goodIn_of _ (by decide +kernel)) ggL_law_X2_rules
set_option maxRecDepth 20000 in
theorem ggL_law_X1_number : GoodIn wsL_law wsX1_number := goodIn_r _ [106, 14, 87, 88, 89, 2, 90, 21, 376, 377, 378, 379, 380, 381, 382] rfl (by decide +kernel)
set_option maxRecDepth 20000 in
theorem gL_law_X1_number : GoodIn wsL_law (wsV RL 32 RX1 yX1_number wsX1_number) := goodIn_app (goodIn_of _ (by decide +kernel)) ggL_law_X1_number
set_option maxRecDepth 20000 in
theorem ggL_law_X2_number : GoodIn wsL_law wsX2_number := goodIn_r _ [110, 58, 42, 383, 384, 385, 386, 387, 388, 389, 390, 391, 392, 393, 394, 395, 396, 397, 398, 399, 400, 401] rfl (by decide +kernel)
set_option maxRecDepth 20000 in
theorem gL_law_X2_number : GoodIn wsL_law (wsV RL 36 RX2 yX2_number wsX2_number) := goodIn_app (goodIn_of _ (by decide +kernel)) ggL_law_X2_number
set_option maxRecDepth 20000 in
theorem ggL_law_X1_keeps : GoodIn wsL_law wsX1_keeps := goodIn_r _ [114, 21, 14, 115, 116, 117, 2, 118, 20, 376, 377, 378, 379, 380, 381, 382] rfl (by decide +kernel)
set_option maxRecDepth 20000 in
theorem gL_law_X1_keeps : GoodIn wsL_law (wsV RL 37 RX1 yX1_keeps wsX1_keeps) := goodIn_app (goodIn_of _ (by decide +kernel)) ggL_law_X1_keeps
set_option maxRecDepth 20000 in
theorem ggL_law_X2_keeps : GoodIn wsL_law wsX2_keeps := goodIn_r _ [122, 58, 41, 42, 383, 384, 385, 386, 387, 388, 389, 390, 391, 392, 393, 394, 395, 396, 397, 398, 399, 400, 401] rfl (by decide +kernel)
set_option maxRecDepth 20000 in
theorem gL_law_X2_keeps : GoodIn wsL_law (wsV RL 41 RX2 yX2_keeps wsX2_keeps) := goodIn_app (goodIn_of _ (by decide +kernel)) ggL_law_X2_keeps
set_option maxRecDepth 20000 in
theorem ggL_law_X1_hasTurn : GoodIn wsL_law wsX1_hasTurn := goodIn_r _ [126, 15, 127, 128, 129, 130, 131, 132, 133, 2, 134, 19, 135, 136, 137, 138, 20, 21, 14, 139, 140, 141, 18, 142, 143, 144, 145, 146, 32, 33, 30, 31, 147, 148, 149, 150, 151, 152, 153, 154, 34, 35, 155, 36, 156, 157, 158, 159, 160, 161, 162, 163, 164, 165, 166, 167, 168, 169, 170, 171, 172, 173, 174, 175, 176, 177, 178, 179, 180, 181, 182, 183, 184, 185, 186, 187, 188, 189, 190, 191, 192, 193, 194, 195, 196, 197, 198, 199, 200, 201, 202, 203, 204, 205, 206, 207, 208, 209, 210, 211, 212, 213, 214, 215, 216, 217, 218, 219, 220, 221, 222, 223, 224, 225, 226, 227, 228, 229, 230, 231, 232, 233, 234, 235, 236, 376, 377, 378, 379, 380, 381, 382, 402, 403, 404, 405, 406, 407, 408] rfl (by decide +kernel)
set_option maxRecDepth 20000 in
theorem gL_law_X1_hasTurn : GoodIn wsL_law (wsV RL 42 RX1 yX1_hasTurn wsX1_hasTurn) := goodIn_app (goodIn_of _ (by decide +kernel)) ggL_law_X1_hasTurn
set_option maxRecDepth 20000 in
theorem ggL_law_X2_hasTurn : GoodIn wsL_law wsX2_hasTurn := goodIn_r _ [240, 241, 242, 243, 5, 244, 245, 58, 41, 43, 42, 246, 247, 248, 249, 45, 250, 251, 252, 253, 254, 255, 256, 257, 258, 44, 46, 259, 260, 261, 262, 263, 264, 265, 266, 267, 268, 269, 270, 271, 272, 273, 274, 275, 47, 48, 276, 277, 278, 279, 280, 281, 282, 283, 284, 285, 286, 287, 288, 289, 290, 291, 292, 293, 294, 295, 296, 297, 298, 299, 383, 384, 385, 386, 387, 388, 389, 390, 391, 392, 393, 394, 395, 396, 397, 398, 399, 400, 401] rfl (by decide +kernel)
set_option maxRecDepth 20000 in
theorem gL_law_X2_hasTurn : GoodIn wsL_law (wsV RL 46 RX2 yX2_hasTurn wsX2_hasTurn) := goodIn_app (goodIn_of _ (by decide +kernel)) ggL_law_X2_hasTurn
set_option maxRecDepth 20000 in
theorem ggL_law_X1_ranked : GoodIn wsL_law wsX1_ranked := goodIn_r _ [303, 19, 304, 305, 306, 2, 307, 20, 21, 14, 139, 140, 141, 18, 142, 143, 144, 145, 146, 32, 33, 30, 31, 147, 148, 129, 149, 150, 128, 130, 151, 152, 153, 154, 34, 35, 155, 36, 156, 157, 158, 159, 160, 161, 162, 163, 164, 165, 166, 171, 172, 173, 174, 175, 176, 177, 178, 179, 180, 181, 182, 183, 184, 185, 186, 187, 188, 189, 190, 191, 192, 193, 194, 195, 196, 197, 198, 199, 200, 201, 202, 203, 204, 205, 206, 207, 208, 209, 210, 211, 212, 213, 214, 215, 216, 376, 377, 378, 379, 380, 381, 382, 402, 403, 404, 405, 406, 407, 408] rfl (by decide +kernel)
set_option maxRecDepth 20000 in
theorem gL_law_X1_ranked : GoodIn wsL_law (wsV RL 47 RX1 yX1_ranked wsX1_ranked) := goodIn_app (goodIn_of _ (by decide +kernel)) ggL_law_X1_ranked
set_option maxRecDepth 20000 in
theorem ggL_law_X2_ranked : GoodIn wsL_law wsX2_ranked := goodIn_r _ [311, 58, 41, 43, 42, 312, 238, 239, 5, 240, 241, 242, 243, 244, 245, 246, 247, 248, 249, 45, 250, 251, 252, 253, 254, 255, 256, 257, 258, 44, 46, 259, 260, 261, 262, 263, 264, 265, 266, 267, 268, 269, 270, 271, 272, 273, 274, 275, 47, 48, 276, 277, 278, 279, 280, 281, 282, 283, 284, 285, 286, 287, 288, 289, 290, 291, 292, 293, 294, 295, 296, 297, 298, 299, 383, 384, 385, 386, 387, 388, 389, 390, 391, 392, 393, 394, 395, 396, 397, 398, 399, 400, 401] rfl (by decide +kernel)
set_option maxRecDepth 20000 in
theorem gL_law_X2_ranked : GoodIn wsL_law (wsV RL 50 RX2 yX2_ranked wsX2_ranked) := goodIn_app (goodIn_of _ (by decide +kernel)) ggL_law_X2_ranked
set_option maxRecDepth 20000 in
theorem ggL_law_X1_ranks : GoodIn wsL_law wsX1_ranks := goodIn_r _ [316, 15, 19, 63, 64, 2, 65, 66, 67, 68, 69, 70, 71, 131, 132, 133, 134, 135, 136, 137, 138, 20, 21, 14, 139, 140, 141, 18, 142, 143, 144, 145, 146, 32, 33, 30, 31, 147, 148, 129, 149, 150, 128, 130, 151, 152, 153, 154, 34, 35, 155, 36, 156, 157, 158, 159, 160, 161, 162, 163, 164, 165, 166, 167, 168, 169, 170, 171, 172, 173, 174, 175, 176, 177, 178, 179, 180, 181, 182, 183, 184, 185, 186, 187, 188, 189, 190, 191, 192, 193, 194, 195, 196, 197, 198, 199, 200, 201, 202, 203, 204, 205, 206, 207, 208, 209, 210, 211, 212, 213, 214, 215, 216, 217, 218, 219, 220, 221, 222, 223, 224, 225, 226, 227, 228, 229, 230, 231, 232, 233, 234, 235, 236, 317, 318, 319, 320, 321, 322, 323, 324, 376, 377, 378, 379, 380, 381, 382, 402, 403, 404, 405, 406, 407, 408] rfl (by decide +kernel)
set_option maxRecDepth 20000 in
theorem gL_law_X1_ranks : GoodIn wsL_law (wsV RL 51 RX1 yX1_ranks wsX1_ranks) := goodIn_app (goodIn_of _ (by decide +kernel)) ggL_law_X1_ranks
set_option maxRecDepth 20000 in
theorem ggL_law_X2_ranks : GoodIn wsL_law wsX2_ranks := goodIn_r _ [328, 49, 329, 330, 76, 77, 5, 78, 331, 332, 333, 334, 41, 43, 335, 245, 241, 242, 243, 244, 58, 42, 246, 247, 248, 249, 45, 250, 251, 252, 253, 254, 255, 256, 257, 258, 44, 46, 259, 260, 261, 262, 263, 264, 265, 266, 267, 268, 269, 270, 271, 272, 273, 274, 275, 47, 48, 276, 277, 278, 279, 280, 281, 282, 283, 284, 285, 286, 287, 288, 289, 290, 291, 292, 293, 294, 295, 296, 297, 298, 299, 336, 337, 338, 339, 383, 384, 385, 386, 387, 388, 389, 390, 391, 392, 393, 394, 395, 396, 397, 398, 399, 400, 401] rfl (by decide +kernel)
set_option maxRecDepth 20000 in
theorem gL_law_X2_ranks : GoodIn wsL_law (wsV RL 55 RX2 yX2_ranks wsX2_ranks) := goodIn_app (goodIn_of _ (by decide +kernel)) ggL_law_X2_ranks
set_option maxRecDepth 20000 in
theorem ggL_law_X1_least : GoodIn wsL_law wsX1_least := goodIn_r _ [343, 15, 22, 23, 19, 63, 64, 2, 65, 66, 67, 68, 69, 70, 71, 131, 132, 133, 134, 135, 136, 137, 138, 20, 21, 14, 139, 140, 141, 18, 142, 143, 144, 145, 146, 32, 33, 30, 31, 147, 148, 129, 149, 150, 128, 130, 151, 152, 153, 154, 34, 35, 155, 36, 156, 157, 158, 159, 160, 161, 162, 163, 164, 165, 166, 167, 168, 169, 170, 171, 172, 173, 174, 175, 176, 177, 178, 179, 180, 181, 182, 183, 184, 185, 186, 187, 188, 189, 190, 191, 192, 193, 194, 195, 196, 197, 198, 199, 200, 201, 202, 203, 204, 205, 206, 207, 208, 209, 210, 211, 212, 213, 214, 215, 216, 217, 218, 219, 220, 221, 222, 223, 224, 225, 226, 227, 228, 229, 230, 231, 232, 233, 234, 235, 236, 317, 318, 319, 320, 321, 322, 323, 324, 344, 345, 346, 347, 348, 349, 350, 351, 352, 376, 377, 378, 379, 380, 381, 382, 402, 403, 404, 405, 406, 407, 408] rfl (by decide +kernel)
set_option maxRecDepth 20000 in
theorem gL_law_X1_least : GoodIn wsL_law (wsV RL 56 RX1 yX1_least wsX1_least) := goodIn_app (goodIn_of _ (by decide +kernel)) ggL_law_X1_least
set_option maxRecDepth 20000 in
theorem ggL_law_X2_least : GoodIn wsL_law wsX2_least := goodIn_r _ [356, 49, 357, 329, 358, 330, 359, 76, 77, 5, 78, 331, 332, 333, 334, 41, 43, 335, 245, 241, 242, 243, 244, 58, 42, 246, 247, 248, 249, 45, 250, 251, 252, 253, 254, 255, 256, 257, 258, 44, 46, 259, 260, 261, 262, 263, 264, 265, 266, 267, 268, 269, 270, 271, 272, 273, 274, 275, 47, 48, 276, 277, 278, 279, 280, 281, 282, 283, 284, 285, 286, 287, 288, 289, 290, 291, 292, 293, 294, 295, 296, 297, 298, 299, 336, 337, 338, 339, 383, 384, 385, 386, 387, 388, 389, 390, 391, 392, 393, 394, 395, 396, 397, 398, 399, 400, 401] rfl (by decide +kernel)
set_option maxRecDepth 20000 in
theorem gL_law_X2_least : GoodIn wsL_law (wsV RL 60 RX2 yX2_least wsX2_least) := goodIn_app (goodIn_of _ (by decide +kernel)) ggL_law_X2_least
set_option maxRecDepth 20000 in
theorem ggL_law_X1_top : GoodIn wsL_law wsX1_top := goodIn_r _ [363, 22, 376, 377, 378, 379, 380, 381, 382] rfl (by decide +kernel)
set_option maxRecDepth 20000 in
theorem gL_law_X1_top : GoodIn wsL_law (wsV RL 61 RX1 yX1_top wsX1_top) := goodIn_app (goodIn_of _ (by decide +kernel)) ggL_law_X1_top
set_option maxRecDepth 20000 in
theorem ggL_law_X2_top : GoodIn wsL_law wsX2_top := goodIn_r _ [367, 358, 383, 384, 385, 386, 387, 388, 389, 390, 391, 392, 393, 394, 395, 396, 397, 398, 399, 400, 401] rfl (by decide +kernel)
set_option maxRecDepth 20000 in
theorem gL_law_X2_top : GoodIn wsL_law (wsV RL 65 RX2 yX2_top wsX2_top) := goodIn_app (goodIn_of _ (by decide +kernel)) ggL_law_X2_top
set_option maxRecDepth 20000 in
theorem ggL_law_X1_bottom : GoodIn wsL_law wsX1_bottom := goodIn_r _ [371, 23, 376, 377, 378, 379, 380, 381, 382] rfl (by decide +kernel)
set_option maxRecDepth 20000 in
theorem gL_law_X1_bottom : GoodIn wsL_law (wsV RL 66 RX1 yX1_bottom wsX1_bottom) := goodIn_app (goodIn_of _ (by decide +kernel)) ggL_law_X1_bottom
set_option maxRecDepth 20000 in
theorem ggL_law_X2_bottom : GoodIn wsL_law wsX2_bottom := goodIn_r _ [375, 359, 383, 384, 385, 386, 387, 388, 389, 390, 391, 392, 393, 394, 395, 396, 397, 398, 399, 400, 401] rfl (by decide +kernel)
set_option maxRecDepth 20000 in
theorem gL_law_X2_bottom : GoodIn wsL_law (wsV RL 69 RX2 yX2_bottom wsX2_bottom) := goodIn_app (goodIn_of _ (by decide +kernel)) ggL_law_X2_bottom
