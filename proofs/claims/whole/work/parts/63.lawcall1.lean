/-! ===== words of the methods that the law calls, 1 ===== -/
set_option maxRecDepth 20000 in
theorem ggL_law_X4_init : GoodIn wsL_law wsX4_init := goodIn_r _ [9, 10, 11, 12, 13, 14, 15, 16, 17, 18, 19, 20, 21, 22, 23, 24, 25, 26, 27, 28, 29, 30, 31, 32, 33, 34, 35, 36, 37, 38, 39, 40, 41, 42, 43, 44, 45, 46, 47, 48, 49, 50, 51, 52, 53, 54, 55, 56, 57, 58, 59, 60, 61, 62, 63, 64, 440, 441, 442, 443, 444, 445, 446, 447, 448, 419, 420, 421, 422, 423, 449, 450, 451, 452, 453, 454, 455, 456, 457, 458] (by decide +kernel) (by decide +kernel)
set_option maxRecDepth 20000 in
theorem gL_law_X4_init : GoodIn wsL_law (wsX4_init) := ggL_law_X4_init
set_option maxRecDepth 20000 in
theorem ggL_law_X5_init : GoodIn wsL_law wsX5_init := goodIn_r _ [67, 68, 11, 12, 29, 69, 70, 71, 72, 73, 74, 75, 6, 76, 77, 78, 79, 80, 424, 425, 426, 427, 428, 429, 430, 431, 432, 433, 434, 435, 436, 437, 438, 439] (by decide +kernel) (by decide +kernel)
set_option maxRecDepth 20000 in
theorem gL_law_X5_init : GoodIn wsL_law (wsX5_init) := ggL_law_X5_init
set_option maxRecDepth 20000 in
theorem ggL_law_L_vertex : GoodIn wsL_law wsL_vertex := goodIn_ca (goodIn_ca (goodIn_r _ [84, 85, 86, 87, 88, 89, 2, 90, 91, 92, 16, 20, 93, 94, 95, 96, 97, 98, 99, 19, 100, 101, 50, 102, 15, 103, 104, 42, 34, 35, 419, 420, 421, 422, 423, 440, 441, 442, 443, 444, 445, 446, 447, 448, 449, 450, 451, 452] (by decide +kernel) (by decide +kernel)) (goodIn_sub (fun _ h => List.mem_append_left _ (List.mem_append_right _ h)) (by decide +kernel))) (goodIn_sub (fun _ h => List.mem_append_right _ h) (by decide +kernel))
set_option maxRecDepth 20000 in
theorem gL_law_L_vertex : GoodIn wsL_law (va_wsS RL 53 yL_vertex wsL_vertex) := goodIn_app (goodIn_of _ (by decide +kernel)) ggL_law_L_vertex
set_option maxRecDepth 20000 in
theorem ggL_law_X5_vertex : GoodIn wsL_law wsX5_vertex := goodIn_r _ [108, 109, 110, 69, 70, 111, 424, 425, 426, 427, 428, 429, 430, 431, 432, 433, 434, 435, 436, 437, 438, 439] (by decide +kernel) (by decide +kernel)
set_option maxRecDepth 20000 in
theorem gL_law_X5_vertex : GoodIn wsL_law (wsV RL 58 RX5 yX5_vertex wsX5_vertex) := goodIn_app (goodIn_of _ (by decide +kernel)) ggL_law_X5_vertex
set_option maxRecDepth 20000 in
theorem ggL_law_X5_thrown : GoodIn wsL_law wsX5_thrown := goodIn_r _ [115, 110, 424, 425, 426, 427, 428, 429, 430, 431, 432, 433, 434, 435, 436, 437, 438, 439] (by decide +kernel) (by decide +kernel)
set_option maxRecDepth 20000 in
theorem gL_law_X5_thrown : GoodIn wsL_law (wsV RL 59 RX5 yX5_thrown wsX5_thrown) := goodIn_app (goodIn_of _ (by decide +kernel)) ggL_law_X5_thrown
set_option maxRecDepth 20000 in
theorem ggL_law_L_edge : GoodIn wsL_law wsL_edge := goodIn_ca (goodIn_ca (goodIn_r _ [118, 85, 86, 119, 120, 121, 2, 122, 97, 98, 91, 92, 16, 20, 123, 124, 125, 126, 127, 15, 128, 129, 42, 99, 19, 100, 101, 50, 130, 131, 132, 43, 36, 39, 40, 41, 38, 133, 419, 420, 421, 422, 423, 440, 441, 442, 443, 444, 445, 446, 447, 448, 449, 450, 451, 452] (by decide +kernel) (by decide +kernel)) (goodIn_sub (fun _ h => List.mem_append_right _ h) (by decide +kernel))) (goodIn_sub (fun _ h => List.mem_append_left _ (List.mem_append_right _ h)) (by decide +kernel))
set_option maxRecDepth 20000 in
theorem gL_law_L_edge : GoodIn wsL_law (va_wsS RL 63 yL_edge wsL_edge) := goodIn_app (goodIn_of _ (by decide +kernel)) ggL_law_L_edge
set_option maxRecDepth 20000 in
theorem ggL_law_X5_edge : GoodIn wsL_law wsX5_edge := goodIn_r _ [137, 138, 110, 71, 72, 73, 111, 139, 140, 141, 5, 142, 109, 424, 425, 426, 427, 428, 429, 430, 431, 432, 433, 434, 435, 436, 437, 438, 439] (by decide +kernel) (by decide +kernel)
set_option maxRecDepth 20000 in
theorem gL_law_X5_edge : GoodIn wsL_law (wsV RL 66 RX5 yX5_edge wsX5_edge) := goodIn_app (goodIn_of _ (by decide +kernel)) ggL_law_X5_edge
set_option maxRecDepth 20000 in
theorem ggL_law_L_fix : GoodIn wsL_law wsL_fix := goodIn_ca (goodIn_r _ [145, 85, 146, 147, 148, 2, 149, 97, 98, 16, 20, 123, 124, 125, 126, 127, 15, 128, 129, 42, 150, 151, 152, 43, 39, 99, 19, 100, 101, 50, 153, 154, 155, 35, 133, 419, 420, 421, 422, 423, 440, 441, 442, 443, 444, 445, 446, 447, 448, 449, 450, 451, 452] (by decide +kernel) (by decide +kernel)) (goodIn_sub (fun _ h => List.mem_append_right _ h) (by decide +kernel))
set_option maxRecDepth 20000 in
theorem gL_law_L_fix : GoodIn wsL_law (va_wsS RL 67 yL_fix wsL_fix) := goodIn_app (goodIn_of _ (by decide +kernel)) ggL_law_L_fix
