set_option maxRecDepth 20000 in
theorem ggL_law_X5_least : GoodIn wsL_law wsX5_least := goodIn_r _ [317, 25, 318, 319, 320, 24, 321, 60, 58, 449, 450, 451, 452, 453, 454, 455, 489, 490, 491, 492, 493, 494, 495, 496] (by decide +kernel) (by decide +kernel)
set_option maxRecDepth 20000 in
theorem gL_law_X5_least : GoodIn wsL_law (wsV RL 75 RX5 yX5_least wsX5_least) := goodIn_app (goodIn_of _ (by decide +kernel)) ggL_law_X5_least
set_option maxRecDepth 20000 in
theorem ggL_law_X6_least : GoodIn wsL_law wsX6_least := goodIn_r _ [325, 147, 226, 90, 456, 457, 458, 459, 460, 461, 462, 463, 464, 465, 466, 467, 468, 469, 470, 471, 472, 473, 474, 475, 476, 477, 478, 479, 480, 481, 482, 483] (by decide +kernel) (by decide +kernel)
set_option maxRecDepth 20000 in
theorem gL_law_X6_least : GoodIn wsL_law (wsV RL 78 RX6 yX6_least wsX6_least) := goodIn_app (goodIn_of _ (by decide +kernel)) ggL_law_X6_least
set_option maxRecDepth 20000 in
theorem ggL_law_L_score : GoodIn wsL_law wsL_score := goodIn_ca (goodIn_ca (goodIn_r _ [328, 109, 174, 329, 330, 331, 2, 332, 115, 116, 179, 180, 21, 333, 334, 335, 20, 336, 47, 337, 338, 339, 340, 449, 450, 451, 452, 453, 454, 455, 486, 487, 488] (by decide +kernel) (by decide +kernel)) (goodIn_sub (fun _ h => List.mem_append_left _ (List.mem_append_left _ (List.mem_append_right _ h))) (by decide +kernel))) (goodIn_sub (fun _ h => List.mem_append_right _ h) (by decide +kernel))
set_option maxRecDepth 20000 in
theorem gL_law_L_score : GoodIn wsL_law (va_wsS RL 79 yL_score wsL_score) := goodIn_app (goodIn_of _ (by decide +kernel)) ggL_law_L_score
set_option maxRecDepth 20000 in
theorem ggL_law_X6_score : GoodIn wsL_law wsX6_score := goodIn_r _ [344, 99, 345, 346, 5, 347, 143, 144, 145, 146, 147, 456, 457, 458, 459, 460, 461, 462, 463, 464, 465, 466, 467, 468, 469, 470, 471, 472, 473, 474, 475, 476, 477, 478, 479, 480, 481, 482, 483] (by decide +kernel) (by decide +kernel)
set_option maxRecDepth 20000 in
theorem gL_law_X6_score : GoodIn wsL_law (wsV RL 82 RX6 yX6_score wsX6_score) := goodIn_app (goodIn_of _ (by decide +kernel)) ggL_law_X6_score
set_option maxRecDepth 20000 in
theorem ggL_law_L_gaps : GoodIn wsL_law wsL_gaps := goodIn_ca (goodIn_r _ [350, 174, 351, 352, 353, 2, 354, 179, 180, 21, 355, 356, 357, 20, 358, 48, 49, 449, 450, 451, 452, 453, 454, 455, 486, 487, 488] (by decide +kernel) (by decide +kernel)) (goodIn_sub (fun _ h => List.mem_append_right _ h) (by decide +kernel))
set_option maxRecDepth 20000 in
theorem gL_law_L_gaps : GoodIn wsL_law (va_wsS RL 83 yL_gaps wsL_gaps) := goodIn_app (goodIn_of _ (by decide +kernel)) ggL_law_L_gaps
set_option maxRecDepth 20000 in
theorem ggL_law_X6_gaps : GoodIn wsL_law wsX6_gaps := goodIn_r _ [362, 100, 101, 143, 144, 145, 5, 146, 147, 456, 457, 458, 459, 460, 461, 462, 463, 464, 465, 466, 467, 468, 469, 470, 471, 472, 473, 474, 475, 476, 477, 478, 479, 480, 481, 482, 483] (by decide +kernel) (by decide +kernel)
set_option maxRecDepth 20000 in
theorem gL_law_X6_gaps : GoodIn wsL_law (wsV RL 86 RX6 yX6_gaps wsX6_gaps) := goodIn_app (goodIn_of _ (by decide +kernel)) ggL_law_X6_gaps
set_option maxRecDepth 20000 in
theorem ggL_law_L_fit : GoodIn wsL_law wsL_fit := goodIn_ca (goodIn_r _ [365, 174, 366, 367, 368, 2, 369, 179, 180, 33, 16, 17, 21, 370, 371, 372, 32, 373, 76, 77, 374, 375, 131, 132, 15, 133, 41, 376, 377, 378, 20, 379, 48, 49, 380, 211, 212, 213, 40, 381, 382, 383, 384, 385, 386, 191, 387, 388, 389, 390, 391, 392, 393, 394, 395, 396, 397, 398, 399, 47, 400, 401, 402, 403, 78, 79, 80, 404, 405, 406, 407, 408, 409, 410, 411, 449, 450, 451, 452, 453, 454, 455, 500, 501, 502, 503, 504, 484, 485, 486, 487, 488] (by decide +kernel) (by decide +kernel)) (goodIn_sub (fun _ h => List.mem_append_right _ h) (by decide +kernel))
set_option maxRecDepth 20000 in
theorem gL_law_L_fit : GoodIn wsL_law (va_wsS RL 87 yL_fit wsL_fit) := goodIn_app (goodIn_of _ (by decide +kernel)) ggL_law_L_fit
set_option maxRecDepth 20000 in
theorem ggL_law_X6_fit : GoodIn wsL_law wsX6_fit := goodIn_r _ [415, 143, 144, 145, 5, 146, 147, 416, 417, 418, 419, 100, 101, 420, 421, 102, 103, 422, 104, 139, 138, 99, 85, 86, 423, 424, 425, 426, 427, 428, 429, 456, 457, 458, 459, 460, 461, 462, 463, 464, 465, 466, 467, 468, 469, 470, 471, 472, 473, 474, 475, 476, 477, 478, 479, 480, 481, 482, 483] (by decide +kernel) (by decide +kernel)
set_option maxRecDepth 20000 in
theorem gL_law_X6_fit : GoodIn wsL_law (wsV RL 89 RX6 yX6_fit wsX6_fit) := goodIn_app (goodIn_of _ (by decide +kernel)) ggL_law_X6_fit
set_option maxRecDepth 20000 in
theorem ggL_law_L_count : GoodIn wsL_law wsL_count := goodIn_ca (goodIn_r _ [432, 174, 433, 434, 435, 2, 436, 179, 180, 16, 17, 25, 33, 21, 130, 131, 132, 15, 133, 41, 218, 219, 220, 24, 221, 60, 400, 401, 402, 32, 403, 78, 79, 80, 76, 77, 374, 375, 380, 211, 212, 213, 40, 381, 382, 383, 384, 385, 386, 191, 387, 388, 389, 390, 20, 391, 48, 392, 393, 394, 395, 49, 396, 397, 398, 399, 47, 404, 405, 406, 407, 437, 438, 439, 440, 441, 442, 443, 444, 449, 450, 451, 452, 453, 454, 455, 484, 485, 489, 490, 491, 492, 493, 494, 495, 496, 500, 501, 502, 503, 504, 486, 487, 488] (by decide +kernel) (by decide +kernel)) (goodIn_sub (fun _ h => List.mem_append_right _ h) (by decide +kernel))
set_option maxRecDepth 20000 in
theorem gL_law_L_count : GoodIn wsL_law (va_wsS RL 90 yL_count wsL_count) := goodIn_app (goodIn_of _ (by decide +kernel)) ggL_law_L_count
set_option maxRecDepth 20000 in
theorem ggL_law_X6_count : GoodIn wsL_law wsX6_count := goodIn_r _ [448, 420, 421, 138, 139, 226, 143, 144, 145, 5, 146, 147, 416, 417, 418, 419, 100, 101, 102, 103, 422, 104, 99, 85, 86, 423, 424, 425, 426, 427, 428, 429, 456, 457, 458, 459, 460, 461, 462, 463, 464, 465, 466, 467, 468, 469, 470, 471, 472, 473, 474, 475, 476, 477, 478, 479, 480, 481, 482, 483] (by decide +kernel) (by decide +kernel)
set_option maxRecDepth 20000 in
theorem gL_law_X6_count : GoodIn wsL_law (wsV RL 92 RX6 yX6_count wsX6_count) := goodIn_app (goodIn_of _ (by decide +kernel)) ggL_law_X6_count

