/-! ===== words of the methods that the law calls, 2 ===== -/
set_option maxRecDepth 20000 in
theorem ggL_law_X5_fix : GoodIn wsL_law wsX5_fix := goodIn_r _ [159, 138, 71, 110, 70, 111, 139, 140, 141, 5, 142, 109, 424, 425, 426, 427, 428, 429, 430, 431, 432, 433, 434, 435, 436, 437, 438, 439] (by decide +kernel) (by decide +kernel)
set_option maxRecDepth 20000 in
theorem gL_law_X5_fix : GoodIn wsL_law (wsV RL 70 RX5 yX5_fix wsX5_fix) := goodIn_app (goodIn_of _ (by decide +kernel)) ggL_law_X5_fix
set_option maxRecDepth 20000 in
theorem ggL_law_L_fixed : GoodIn wsL_law wsL_fixed := goodIn_ca (goodIn_r _ [162, 85, 163, 164, 165, 2, 166, 16, 123, 124, 125, 126, 97, 98, 127, 15, 128, 129, 42, 167, 168, 169, 35, 133, 419, 420, 421, 422, 423, 440, 441, 442, 443, 444, 445, 446, 447, 448] (by decide +kernel) (by decide +kernel)) (goodIn_sub (fun _ h => List.mem_append_right _ h) (by decide +kernel))
set_option maxRecDepth 20000 in
theorem gL_law_L_fixed : GoodIn wsL_law (va_wsS RL 71 yL_fixed wsL_fixed) := goodIn_app (goodIn_of _ (by decide +kernel)) ggL_law_L_fixed
set_option maxRecDepth 20000 in
theorem ggL_law_X5_fixed : GoodIn wsL_law wsX5_fixed := goodIn_r _ [173, 110, 70, 139, 140, 141, 5, 142, 109, 424, 425, 426, 427, 428, 429, 430, 431, 432, 433, 434, 435, 436, 437, 438, 439] (by decide +kernel) (by decide +kernel)
set_option maxRecDepth 20000 in
theorem gL_law_X5_fixed : GoodIn wsL_law (wsV RL 73 RX5 yX5_fixed wsX5_fixed) := goodIn_app (goodIn_of _ (by decide +kernel)) ggL_law_X5_fixed
set_option maxRecDepth 20000 in
theorem ggL_law_L_credit : GoodIn wsL_law wsL_credit := goodIn_ca (goodIn_ca (goodIn_r _ [176, 85, 86, 177, 178, 179, 2, 180, 20, 24, 123, 124, 125, 126, 97, 98, 16, 127, 15, 128, 129, 42, 181, 182, 183, 184, 91, 92, 185, 186, 187, 188, 189, 190, 191, 35, 36, 133, 192, 19, 193, 194, 195, 196, 197, 198, 52, 50, 48, 51, 199, 200, 201, 27, 202, 203, 56, 204, 205, 206, 207, 208, 209, 210, 211, 212, 213, 214, 215, 216, 217, 218, 219, 220, 221, 222, 223, 224, 57, 225, 226, 227, 228, 229, 230, 231, 232, 233, 34, 234, 235, 236, 237, 238, 239, 240, 241, 242, 243, 244, 245, 246, 247, 248, 249, 250, 38, 251, 252, 253, 40, 254, 255, 256, 41, 257, 258, 259, 260, 261, 23, 262, 263, 63, 62, 61, 64, 264, 265, 266, 267, 268, 269, 270, 271, 272, 273, 274, 275, 276, 277, 278, 279, 280, 281, 282, 283, 284, 285, 286, 287, 288, 289, 290, 291, 292, 293, 294, 295, 419, 420, 421, 422, 423, 440, 441, 442, 443, 444, 445, 446, 447, 448, 449, 450, 451, 452, 457, 458, 453, 454, 455, 456] (by decide +kernel) (by decide +kernel)) (goodIn_sub (fun _ h => List.mem_append_right _ h) (by decide +kernel))) (goodIn_sub (fun _ h => List.mem_append_left _ (List.mem_append_right _ h)) (by decide +kernel))
set_option maxRecDepth 20000 in
theorem gL_law_L_credit : GoodIn wsL_law (va_wsS RL 74 yL_credit wsL_credit) := goodIn_app (goodIn_of _ (by decide +kernel)) ggL_law_L_credit
set_option maxRecDepth 20000 in
theorem ggL_law_X5_credit : GoodIn wsL_law wsX5_credit := goodIn_r _ [299, 78, 300, 301, 302, 303, 5, 304, 110, 139, 140, 141, 142, 109, 305, 306, 307, 308, 138, 309, 310, 311, 312, 71, 70, 313, 314, 315, 316, 73, 79, 317, 318, 319, 320, 69, 72, 424, 425, 426, 427, 428, 429, 430, 431, 432, 433, 434, 435, 436, 437, 438, 439] (by decide +kernel) (by decide +kernel)
set_option maxRecDepth 20000 in
theorem gL_law_X5_credit : GoodIn wsL_law (wsV RL 76 RX5 yX5_credit wsX5_credit) := goodIn_app (goodIn_of _ (by decide +kernel)) ggL_law_X5_credit
set_option maxRecDepth 20000 in
theorem ggL_law_L_reaches : GoodIn wsL_law wsL_reaches := goodIn_ca (goodIn_ca (goodIn_r _ [323, 85, 86, 324, 325, 326, 2, 327, 97, 98, 20, 123, 124, 125, 126, 16, 127, 15, 128, 129, 42, 181, 182, 183, 184, 91, 92, 185, 186, 187, 188, 189, 190, 191, 35, 36, 133, 196, 19, 197, 198, 52, 50, 48, 51, 199, 200, 201, 27, 202, 203, 56, 204, 205, 206, 207, 208, 209, 210, 211, 212, 213, 214, 215, 216, 217, 218, 219, 220, 221, 222, 223, 224, 57, 225, 226, 227, 228, 229, 230, 231, 232, 233, 34, 234, 235, 236, 237, 238, 239, 240, 241, 242, 243, 244, 245, 246, 247, 248, 249, 250, 38, 251, 252, 253, 40, 254, 255, 256, 41, 257, 258, 259, 260, 264, 265, 266, 267, 268, 269, 270, 271, 272, 273, 274, 419, 420, 421, 422, 423, 440, 441, 442, 443, 444, 445, 446, 447, 448, 449, 450, 451, 452, 457, 458] (by decide +kernel) (by decide +kernel)) (goodIn_sub (fun _ h => List.mem_append_right _ h) (by decide +kernel))) (goodIn_sub (fun _ h => List.mem_append_left _ (List.mem_append_right _ h)) (by decide +kernel))
set_option maxRecDepth 20000 in
theorem gL_law_L_reaches : GoodIn wsL_law (va_wsS RL 77 yL_reaches wsL_reaches) := goodIn_app (goodIn_of _ (by decide +kernel)) ggL_law_L_reaches
set_option maxRecDepth 20000 in
theorem ggL_law_X5_reaches : GoodIn wsL_law wsX5_reaches := goodIn_r _ [331, 110, 74, 75, 139, 140, 141, 5, 142, 109, 305, 306, 307, 308, 138, 309, 310, 311, 312, 71, 70, 332, 333, 334, 335, 111, 336, 337, 76, 73, 72, 69, 77, 338, 339, 340, 341, 342, 343, 344, 424, 425, 426, 427, 428, 429, 430, 431, 432, 433, 434, 435, 436, 437, 438, 439] (by decide +kernel) (by decide +kernel)
set_option maxRecDepth 20000 in
theorem gL_law_X5_reaches : GoodIn wsL_law (wsV RL 79 RX5 yX5_reaches wsX5_reaches) := goodIn_app (goodIn_of _ (by decide +kernel)) ggL_law_X5_reaches
set_option maxRecDepth 20000 in
theorem ggL_law_L_value : GoodIn wsL_law wsL_value := goodIn_ca (goodIn_ca (goodIn_r _ [347, 85, 86, 348, 349, 350, 2, 351, 20, 123, 124, 125, 126, 97, 98, 16, 127, 15, 128, 129, 42, 181, 182, 183, 184, 91, 92, 185, 186, 187, 188, 189, 190, 191, 35, 36, 133, 196, 19, 197, 198, 52, 50, 48, 51, 199, 200, 201, 27, 202, 203, 56, 204, 205, 206, 207, 208, 209, 210, 211, 212, 213, 214, 215, 216, 217, 218, 219, 220, 221, 222, 223, 224, 57, 225, 226, 227, 228, 229, 230, 231, 232, 233, 34, 234, 235, 236, 237, 238, 239, 240, 241, 242, 243, 244, 245, 246, 247, 248, 249, 250, 38, 251, 252, 253, 40, 254, 255, 256, 41, 257, 258, 259, 260, 352, 353, 354, 267, 268, 269, 270, 355, 356, 357, 358, 419, 420, 421, 422, 423, 440, 441, 442, 443, 444, 445, 446, 447, 448, 449, 450, 451, 452, 457, 458] (by decide +kernel) (by decide +kernel)) (goodIn_sub (fun _ h => List.mem_append_right _ h) (by decide +kernel))) (goodIn_sub (fun _ h => List.mem_append_left _ (List.mem_append_right _ h)) (by decide +kernel))
set_option maxRecDepth 20000 in
theorem gL_law_L_value : GoodIn wsL_law (va_wsS RL 80 yL_value wsL_value) := goodIn_app (goodIn_of _ (by decide +kernel)) ggL_law_L_value
