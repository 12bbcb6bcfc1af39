set_option maxRecDepth 20000 in
theorem ggL_law_L_feed : GoodIn wsL_law wsL_feed := goodIn_ca (goodIn_ca (goodIn_r _ [108, 109, 110, 111, 112, 113, 2, 114, 115, 116, 117, 118, 16, 17, 119, 120, 121, 122, 123, 124, 15, 125, 40, 41, 126, 127, 128, 129, 130, 131, 132, 133, 449, 450, 451, 452, 453, 454, 455, 484, 485] (by decide +kernel) (by decide +kernel)) (goodIn_sub (fun _ h => List.mem_append_left _ (List.mem_append_left _ (List.mem_append_right _ h))) (by decide +kernel))) (goodIn_sub (fun _ h => List.mem_append_left _ (List.mem_append_right _ h)) (by decide +kernel))
set_option maxRecDepth 20000 in
theorem gL_law_L_feed : GoodIn wsL_law (va_wsS RL 51 yL_feed wsL_feed) := goodIn_app (goodIn_of _ (by decide +kernel)) ggL_law_L_feed
set_option maxRecDepth 20000 in
theorem ggL_law_X6_feed : GoodIn wsL_law wsX6_feed := goodIn_r _ [137, 138, 139, 140, 141, 5, 142, 143, 144, 145, 146, 147, 148, 149, 150, 151, 85, 86, 456, 457, 458, 459, 460, 461, 462, 463, 464, 465, 466, 467, 468, 469, 470, 471, 472, 473, 474, 475, 476, 477, 478, 479, 480, 481, 482, 483] (by decide +kernel) (by decide +kernel)
set_option maxRecDepth 20000 in
theorem gL_law_X6_feed : GoodIn wsL_law (wsV RL 56 RX6 yX6_feed wsX6_feed) := goodIn_app (goodIn_of _ (by decide +kernel)) ggL_law_X6_feed
set_option maxRecDepth 20000 in
theorem ggL_law_X6_thrown : GoodIn wsL_law wsX6_thrown := goodIn_r _ [155, 147, 456, 457, 458, 459, 460, 461, 462, 463, 464, 465, 466, 467, 468, 469, 470, 471, 472, 473, 474, 475, 476, 477, 478, 479, 480, 481, 482, 483] (by decide +kernel) (by decide +kernel)
set_option maxRecDepth 20000 in
theorem gL_law_X6_thrown : GoodIn wsL_law (wsV RL 57 RX6 yX6_thrown wsX6_thrown) := goodIn_app (goodIn_of _ (by decide +kernel)) ggL_law_X6_thrown
set_option maxRecDepth 20000 in
theorem ggL_law_L_clear : GoodIn wsL_law wsL_clear := goodIn_ca (goodIn_r _ [158, 109, 159, 160, 161, 2, 162, 115, 116, 16, 17, 130, 131, 132, 15, 133, 41, 163, 164, 165, 166, 449, 450, 451, 452, 453, 454, 455, 484, 485] (by decide +kernel) (by decide +kernel)) (goodIn_sub (fun _ h => List.mem_append_left _ (List.mem_append_left _ (List.mem_append_right _ h))) (by decide +kernel))
set_option maxRecDepth 20000 in
theorem gL_law_L_clear : GoodIn wsL_law (va_wsS RL 61 yL_clear wsL_clear) := goodIn_app (goodIn_of _ (by decide +kernel)) ggL_law_L_clear
set_option maxRecDepth 20000 in
theorem ggL_law_X6_clear : GoodIn wsL_law wsX6_clear := goodIn_r _ [170, 138, 139, 143, 144, 145, 5, 146, 147, 456, 457, 458, 459, 460, 461, 462, 463, 464, 465, 466, 467, 468, 469, 470, 471, 472, 473, 474, 475, 476, 477, 478, 479, 480, 481, 482, 483] (by decide +kernel) (by decide +kernel)
set_option maxRecDepth 20000 in
theorem gL_law_X6_clear : GoodIn wsL_law (wsV RL 64 RX6 yX6_clear wsX6_clear) := goodIn_app (goodIn_of _ (by decide +kernel)) ggL_law_X6_clear
set_option maxRecDepth 20000 in
theorem ggL_law_L_search : GoodIn wsL_law wsL_search := goodIn_ca (goodIn_r _ [173, 174, 175, 176, 177, 2, 178, 179, 180, 25, 16, 17, 34, 181, 182, 183, 24, 184, 55, 56, 60, 185, 186, 187, 15, 188, 41, 40, 189, 190, 191, 192, 193, 194, 195, 196, 197, 198, 199, 200, 61, 62, 201, 131, 132, 133, 202, 203, 204, 205, 57, 58, 59, 206, 207, 208, 209, 210, 211, 212, 213, 214, 215, 216, 217, 218, 219, 220, 221, 449, 450, 451, 452, 453, 454, 455, 489, 490, 491, 492, 493, 494, 495, 496, 484, 485] (by decide +kernel) (by decide +kernel)) (goodIn_sub (fun _ h => List.mem_append_right _ h) (by decide +kernel))
set_option maxRecDepth 20000 in
theorem gL_law_L_search : GoodIn wsL_law (va_wsS RL 65 yL_search wsL_search) := goodIn_app (goodIn_of _ (by decide +kernel)) ggL_law_L_search
set_option maxRecDepth 20000 in
theorem ggL_law_X6_search : GoodIn wsL_law wsX6_search := goodIn_r _ [225, 226, 138, 93, 95, 139, 92, 94, 86, 227, 228, 87, 85, 88, 143, 144, 145, 5, 146, 147, 229, 230, 231, 232, 89, 90, 91, 233, 234, 235, 236, 456, 457, 458, 459, 460, 461, 462, 463, 464, 465, 466, 467, 468, 469, 470, 471, 472, 473, 474, 475, 476, 477, 478, 479, 480, 481, 482, 483] (by decide +kernel) (by decide +kernel)
set_option maxRecDepth 20000 in
theorem gL_law_X6_search : GoodIn wsL_law (wsV RL 68 RX6 yX6_search wsX6_search) := goodIn_app (goodIn_of _ (by decide +kernel)) ggL_law_X6_search
set_option maxRecDepth 20000 in
theorem ggL_law_L_found : GoodIn wsL_law wsL_found := goodIn_ca (goodIn_ca (goodIn_r _ [239, 109, 174, 240, 241, 242, 2, 243, 115, 116, 179, 180, 25, 29, 218, 219, 220, 24, 221, 60, 244, 245, 246, 247, 57, 248, 249, 250, 251, 58, 252, 253, 254, 255, 59, 256, 257, 258, 259, 34, 260, 261, 262, 263, 55, 264, 265, 266, 267, 56, 268, 269, 270, 28, 271, 69, 68, 272, 273, 274, 275, 71, 276, 190, 191, 192, 277, 131, 132, 15, 133, 41, 278, 279, 280, 281, 211, 212, 213, 40, 282, 283, 284, 285, 286, 287, 288, 289, 449, 450, 451, 452, 453, 454, 455, 489, 490, 491, 492, 493, 494, 495, 496, 497, 498, 499, 484, 485] (by decide +kernel) (by decide +kernel)) (goodIn_sub (fun _ h => List.mem_append_left _ (List.mem_append_left _ (List.mem_append_right _ h))) (by decide +kernel))) (goodIn_sub (fun _ h => List.mem_append_right _ h) (by decide +kernel))
set_option maxRecDepth 20000 in
theorem gL_law_L_found : GoodIn wsL_law (va_wsS RL 69 yL_found wsL_found) := goodIn_app (goodIn_of _ (by decide +kernel)) ggL_law_L_found
set_option maxRecDepth 20000 in
theorem ggL_law_X6_found_ : GoodIn wsL_law wsX6_found_ := goodIn_r _ [293, 226, 89, 90, 91, 294, 143, 144, 145, 5, 146, 147, 295, 296, 297, 298, 227, 97, 87, 88, 98, 456, 457, 458, 459, 460, 461, 462, 463, 464, 465, 466, 467, 468, 469, 470, 471, 472, 473, 474, 475, 476, 477, 478, 479, 480, 481, 482, 483] (by decide +kernel) (by decide +kernel)
set_option maxRecDepth 20000 in
theorem gL_law_X6_found_ : GoodIn wsL_law (wsV RL 71 RX6 yX6_found_ wsX6_found_) := goodIn_app (goodIn_of _ (by decide +kernel)) ggL_law_X6_found_
set_option maxRecDepth 20000 in
theorem ggL_law_L_step : GoodIn wsL_law wsL_step := goodIn_ca (goodIn_r _ [301, 109, 302, 303, 304, 2, 305, 115, 116, 25, 29, 218, 219, 220, 24, 221, 60, 256, 257, 258, 259, 34, 260, 261, 262, 263, 55, 264, 265, 266, 267, 56, 252, 253, 254, 255, 59, 244, 245, 246, 247, 57, 268, 269, 270, 28, 271, 69, 68, 272, 273, 274, 275, 71, 276, 190, 191, 192, 277, 131, 132, 15, 133, 41, 278, 279, 280, 281, 211, 212, 213, 40, 282, 283, 284, 285, 286, 287, 288, 289, 306, 307, 308, 309, 449, 450, 451, 452, 453, 454, 455, 489, 490, 491, 492, 493, 494, 495, 496, 497, 498, 499, 484, 485] (by decide +kernel) (by decide +kernel)) (goodIn_sub (fun _ h => List.mem_append_left _ (List.mem_append_left _ (List.mem_append_right _ h))) (by decide +kernel))
set_option maxRecDepth 20000 in
theorem gL_law_L_step : GoodIn wsL_law (va_wsS RL 72 yL_step wsL_step) := goodIn_app (goodIn_of _ (by decide +kernel)) ggL_law_L_step
set_option maxRecDepth 20000 in
theorem ggL_law_X6_step : GoodIn wsL_law wsX6_step := goodIn_r _ [313, 226, 294, 98, 295, 296, 297, 5, 298, 89, 91, 227, 97, 87, 88, 143, 144, 145, 146, 147, 456, 457, 458, 459, 460, 461, 462, 463, 464, 465, 466, 467, 468, 469, 470, 471, 472, 473, 474, 475, 476, 477, 478, 479, 480, 481, 482, 483] (by decide +kernel) (by decide +kernel)
set_option maxRecDepth 20000 in
theorem gL_law_X6_step : GoodIn wsL_law (wsV RL 74 RX6 yX6_step wsX6_step) := goodIn_app (goodIn_of _ (by decide +kernel)) ggL_law_X6_step
