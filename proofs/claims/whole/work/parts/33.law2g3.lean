set_option maxRecDepth 20000 in
theorem ggL_law_X5_left : GoodIn wsL_law wsX5_left := goodIn_r _ [550, 131, 73, 122, 123, 124, 5, 125, 126, 612, 613, 614, 615, 616, 617, 618, 619, 620, 621, 622, 623, 624, 625, 626, 627, 628, 629] (by decide +kernel) (by decide +kernel)
set_option maxRecDepth 20000 in
theorem gL_law_X5_left : GoodIn wsL_law (wsV RL 116 RX5 yX5_left wsX5_left) := goodIn_app (goodIn_of _ (by decide +kernel)) ggL_law_X5_left
set_option maxRecDepth 20000 in
theorem ggL_law_X4_reset : GoodIn wsL_law wsX4_reset := goodIn_r _ [554, 28, 111, 112, 113, 27, 114, 59, 115, 607, 608, 609, 610, 611, 648, 649, 650, 651] (by decide +kernel) (by decide +kernel)
set_option maxRecDepth 20000 in
theorem gL_law_X4_reset : GoodIn wsL_law (wsV RL 117 RX4 yX4_reset wsX4_reset) := goodIn_app (goodIn_of _ (by decide +kernel)) ggL_law_X4_reset
set_option maxRecDepth 20000 in
theorem ggL_law_X5_reset : GoodIn wsL_law wsX5_reset := goodIn_r _ [558, 126, 73, 612, 613, 614, 615, 616, 617, 618, 619, 620, 621, 622, 623, 624, 625, 626, 627, 628, 629] (by decide +kernel) (by decide +kernel)
set_option maxRecDepth 20000 in
theorem gL_law_X5_reset : GoodIn wsL_law (wsV RL 120 RX5 yX5_reset wsX5_reset) := goodIn_app (goodIn_of _ (by decide +kernel)) ggL_law_X5_reset
set_option maxRecDepth 20000 in
theorem ggL_law_L_slow : GoodIn wsL_law wsL_slow := goodIn_ca (goodIn_r _ [561, 168, 562, 563, 564, 2, 565, 24, 16, 211, 212, 213, 214, 174, 175, 178, 179, 180, 15, 181, 94, 366, 367, 368, 369, 309, 310, 381, 382, 383, 23, 384, 55, 385, 386, 387, 388, 95, 389, 390, 391, 392, 53, 51, 341, 342, 393, 394, 395, 396, 397, 398, 399, 400, 401, 54, 402, 403, 404, 405, 406, 407, 408, 409, 410, 411, 291, 292, 293, 35, 36, 193, 194, 101, 412, 190, 191, 192, 38, 413, 414, 415, 416, 344, 345, 347, 348, 99, 100, 417, 418, 419, 420, 421, 422, 423, 424, 425, 426, 427, 428, 429, 430, 566, 567, 568, 569, 570, 189, 571, 607, 608, 609, 610, 611, 630, 631, 632, 633, 634, 635, 636, 637, 644, 645, 646, 647] (by decide +kernel) (by decide +kernel)) (goodIn_sub (fun _ h => List.mem_append_left _ (List.mem_append_right _ h)) (by decide +kernel))
set_option maxRecDepth 20000 in
theorem gL_law_L_slow : GoodIn wsL_law (va_wsS RL 121 yL_slow wsL_slow) := goodIn_app (goodIn_of _ (by decide +kernel)) ggL_law_L_slow
set_option maxRecDepth 20000 in
theorem ggL_law_X5_slow : GoodIn wsL_law wsX5_slow := goodIn_r _ [575, 199, 200, 201, 5, 202, 121, 122, 123, 124, 125, 126, 141, 142, 143, 435, 436, 437, 438, 439, 440, 441, 442, 120, 243, 244, 245, 246, 443, 444, 445, 446, 75, 76, 152, 69, 247, 248, 249, 250, 251, 65, 68, 66, 67, 252, 253, 254, 255, 256, 257, 258, 259, 260, 261, 262, 263, 447, 448, 449, 450, 451, 452, 453, 576, 577, 578, 579, 612, 613, 614, 615, 616, 617, 618, 619, 620, 621, 622, 623, 624, 625, 626, 627, 628, 629] (by decide +kernel) (by decide +kernel)
set_option maxRecDepth 20000 in
theorem gL_law_X5_slow : GoodIn wsL_law (wsV RL 123 RX5 yX5_slow wsX5_slow) := goodIn_app (goodIn_of _ (by decide +kernel)) ggL_law_X5_slow
set_option maxRecDepth 20000 in
theorem ggL_law_L_count : GoodIn wsL_law wsL_count := goodIn_ca (goodIn_r _ [582, 168, 583, 584, 585, 2, 586, 174, 175, 16, 89, 88, 210, 28, 507, 106, 587, 588, 589, 590, 20, 268, 24, 334, 269, 270, 271, 272, 29, 273, 274, 275, 19, 276, 42, 277, 278, 279, 280, 281, 282, 283, 46, 284, 285, 286, 287, 288, 15, 289, 34, 183, 184, 290, 291, 292, 293, 35, 36, 294, 295, 296, 297, 298, 299, 300, 301, 302, 303, 304, 305, 306, 307, 308, 309, 310, 311, 312, 313, 314, 315, 316, 317, 318, 319, 320, 321, 322, 43, 44, 45, 381, 382, 383, 23, 384, 55, 385, 386, 387, 388, 95, 389, 390, 391, 392, 53, 51, 341, 342, 393, 394, 395, 396, 397, 398, 399, 400, 401, 54, 402, 403, 404, 405, 406, 407, 408, 409, 410, 411, 193, 194, 101, 412, 190, 191, 192, 38, 413, 414, 415, 416, 344, 345, 347, 348, 99, 100, 417, 418, 419, 420, 421, 422, 423, 424, 425, 426, 427, 428, 429, 430, 607, 608, 609, 610, 611, 630, 631, 632, 633, 634, 635, 636, 637, 648, 649, 650, 651, 638, 639, 640, 641, 642, 643, 644, 645, 646, 647] (by decide +kernel) (by decide +kernel)) (goodIn_sub (fun _ h => List.mem_append_left _ (List.mem_append_right _ h)) (by decide +kernel))
set_option maxRecDepth 20000 in
theorem gL_law_L_count : GoodIn wsL_law (va_wsS RL 124 yL_count wsL_count) := goodIn_app (goodIn_of _ (by decide +kernel)) ggL_law_L_count
set_option maxRecDepth 20000 in
theorem ggL_law_X5_count : GoodIn wsL_law wsX5_count := goodIn_r _ [594, 131, 73, 71, 121, 120, 152, 132, 122, 123, 124, 5, 125, 126, 435, 436, 437, 438, 439, 440, 441, 442, 243, 244, 245, 246, 443, 444, 445, 446, 75, 76, 69, 247, 248, 249, 250, 251, 65, 68, 66, 67, 252, 253, 254, 255, 256, 257, 258, 259, 260, 261, 262, 263, 447, 448, 449, 450, 451, 452, 453, 612, 613, 614, 615, 616, 617, 618, 619, 620, 621, 622, 623, 624, 625, 626, 627, 628, 629] (by decide +kernel) (by decide +kernel)
set_option maxRecDepth 20000 in
theorem gL_law_X5_count : GoodIn wsL_law (wsV RL 126 RX5 yX5_count wsX5_count) := goodIn_app (goodIn_of _ (by decide +kernel)) ggL_law_X5_count
set_option maxRecDepth 20000 in
theorem ggL_law_X4_clear : GoodIn wsL_law wsX4_clear := goodIn_r _ [598, 16, 599, 600, 601, 15, 602, 94, 95, 219, 102, 103, 104, 2, 105, 29, 24, 28, 106, 107, 108, 109, 23, 110, 53, 111, 112, 113, 27, 114, 59, 115, 607, 608, 609, 610, 611, 630, 631, 632, 633, 634, 635, 636, 637, 648, 649, 650, 651, 644, 645, 646, 647] (by decide +kernel) (by decide +kernel)
set_option maxRecDepth 20000 in
theorem gL_law_X4_clear : GoodIn wsL_law (wsV RL 127 RX4 yX4_clear wsX4_clear) := goodIn_app (goodIn_of _ (by decide +kernel)) ggL_law_X4_clear
set_option maxRecDepth 20000 in
theorem ggL_law_X5_clear : GoodIn wsL_law wsX5_clear := goodIn_r _ [606, 126, 121, 120, 152, 127, 128, 129, 5, 130, 70, 73, 131, 71, 72, 132, 133, 134, 135, 136, 65, 137, 138, 139, 140, 141, 142, 143, 144, 145, 146, 147, 148, 149, 150, 151, 69, 153, 154, 155, 156, 66, 67, 157, 158, 159, 160, 612, 613, 614, 615, 616, 617, 618, 619, 620, 621, 622, 623, 624, 625, 626, 627, 628, 629] (by decide +kernel) (by decide +kernel)
set_option maxRecDepth 20000 in
theorem gL_law_X5_clear : GoodIn wsL_law (wsV RL 130 RX5 yX5_clear wsX5_clear) := goodIn_app (goodIn_of _ (by decide +kernel)) ggL_law_X5_clear
