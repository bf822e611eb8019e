set_option maxRecDepth 20000 in
theorem ggL_law_X4_init : GoodIn wsL_law wsX4_init := goodIn_r _ [9, 10, 11, 12, 13, 14, 15, 16, 17, 18, 19, 20, 21, 22, 23, 24, 25, 26, 27, 28, 29, 30, 31, 32, 33, 34, 35, 36, 37, 6, 38, 39, 40, 41, 42, 43, 44, 45, 46, 47, 48, 49, 50, 51, 52, 53, 54, 55, 56, 57, 58, 59, 60, 630, 631, 632, 633, 634, 635, 636, 637, 607, 608, 609, 610, 611, 638, 639, 640, 641, 642, 643, 644, 645, 646, 647, 648, 649, 650, 651] (by decide +kernel) (by decide +kernel)
set_option maxRecDepth 20000 in
theorem gL_law_X4_init : GoodIn wsL_law (wsX4_init) := ggL_law_X4_init
set_option maxRecDepth 20000 in
theorem ggL_law_X5_init : GoodIn wsL_law wsX5_init := goodIn_r _ [63, 64, 11, 12, 33, 65, 66, 67, 68, 69, 70, 71, 72, 52, 73, 74, 6, 75, 76, 612, 613, 614, 615, 616, 617, 618, 619, 620, 621, 622, 623, 624, 625, 626, 627, 628, 629] (by decide +kernel) (by decide +kernel)
set_option maxRecDepth 20000 in
theorem gL_law_X5_init : GoodIn wsL_law (wsX5_init) := ggL_law_X5_init
set_option maxRecDepth 20000 in
theorem ggL_law_L_input : GoodIn wsL_law wsL_input := goodIn_ca (goodIn_r _ [80, 81, 82, 83, 84, 2, 85, 86, 87, 16, 88, 89, 90, 91, 92, 15, 93, 94, 34, 38, 95, 96, 97, 98, 99, 100, 101, 102, 103, 104, 105, 29, 24, 28, 106, 107, 108, 109, 23, 110, 53, 111, 112, 113, 27, 114, 59, 115, 607, 608, 609, 610, 611, 630, 631, 632, 633, 634, 635, 636, 637, 648, 649, 650, 651, 644, 645, 646, 647] (by decide +kernel) (by decide +kernel)) (goodIn_sub (fun _ h => List.mem_append_left _ (List.mem_append_left _ (List.mem_append_right _ h))) (by decide +kernel))
set_option maxRecDepth 20000 in
theorem gL_law_L_input : GoodIn wsL_law (va_wsS RL 63 yL_input wsL_input) := goodIn_app (goodIn_of _ (by decide +kernel)) ggL_law_L_input
set_option maxRecDepth 20000 in
theorem ggL_law_X5_input : GoodIn wsL_law wsX5_input := goodIn_r _ [119, 120, 121, 65, 68, 122, 123, 124, 5, 125, 126, 127, 128, 129, 130, 70, 73, 131, 71, 72, 132, 133, 134, 135, 136, 137, 138, 139, 140, 141, 142, 143, 144, 145, 146, 147, 148, 149, 150, 151, 152, 69, 153, 154, 155, 156, 66, 67, 157, 158, 159, 160, 612, 613, 614, 615, 616, 617, 618, 619, 620, 621, 622, 623, 624, 625, 626, 627, 628, 629] (by decide +kernel) (by decide +kernel)
set_option maxRecDepth 20000 in
theorem gL_law_X5_input : GoodIn wsL_law (wsV RL 68 RX5 yX5_input wsX5_input) := goodIn_app (goodIn_of _ (by decide +kernel)) ggL_law_X5_input
set_option maxRecDepth 20000 in
theorem ggL_law_X5_thrown : GoodIn wsL_law wsX5_thrown := goodIn_r _ [164, 126, 612, 613, 614, 615, 616, 617, 618, 619, 620, 621, 622, 623, 624, 625, 626, 627, 628, 629] (by decide +kernel) (by decide +kernel)
set_option maxRecDepth 20000 in
theorem gL_law_X5_thrown : GoodIn wsL_law (wsV RL 69 RX5 yX5_thrown wsX5_thrown) := goodIn_app (goodIn_of _ (by decide +kernel)) ggL_law_X5_thrown
set_option maxRecDepth 20000 in
theorem ggL_law_L_gate : GoodIn wsL_law wsL_gate := goodIn_ca (goodIn_ca (goodIn_ca (goodIn_r _ [167, 168, 81, 169, 170, 171, 172, 2, 173, 174, 175, 86, 87, 176, 177, 16, 89, 178, 179, 180, 15, 181, 94, 182, 183, 184, 185, 186, 187, 188, 34, 35, 36, 38, 189, 190, 191, 192, 193, 194, 101, 102, 103, 104, 105, 29, 24, 28, 106, 107, 108, 109, 23, 110, 53, 111, 112, 113, 27, 114, 59, 115, 607, 608, 609, 610, 611, 630, 631, 632, 633, 634, 635, 636, 637, 648, 649, 650, 651, 644, 645, 646, 647] (by decide +kernel) (by decide +kernel)) (goodIn_sub (fun _ h => List.mem_append_left _ (List.mem_append_right _ h)) (by decide +kernel))) (goodIn_sub (fun _ h => List.mem_append_left _ (List.mem_append_left _ (List.mem_append_right _ h))) (by decide +kernel))) (goodIn_sub (fun _ h => List.mem_append_right _ h) (by decide +kernel))
set_option maxRecDepth 20000 in
theorem gL_law_L_gate : GoodIn wsL_law (va_wsS RL 72 yL_gate wsL_gate) := goodIn_app (goodIn_of _ (by decide +kernel)) ggL_law_L_gate
set_option maxRecDepth 20000 in
theorem ggL_law_X5_gate : GoodIn wsL_law wsX5_gate := goodIn_r _ [198, 121, 65, 66, 67, 199, 200, 201, 5, 202, 122, 123, 124, 125, 126, 127, 128, 129, 130, 70, 73, 131, 71, 72, 132, 133, 134, 135, 136, 137, 138, 139, 140, 141, 142, 143, 144, 145, 146, 147, 148, 149, 150, 151, 152, 69, 153, 154, 155, 156, 157, 158, 159, 160, 612, 613, 614, 615, 616, 617, 618, 619, 620, 621, 622, 623, 624, 625, 626, 627, 628, 629] (by decide +kernel) (by decide +kernel)
set_option maxRecDepth 20000 in
theorem gL_law_X5_gate : GoodIn wsL_law (wsV RL 75 RX5 yX5_gate wsX5_gate) := goodIn_app (goodIn_of _ (by decide +kernel)) ggL_law_X5_gate
set_option maxRecDepth 20000 in
theorem ggL_law_L_output : GoodIn wsL_law wsL_output := goodIn_ca (goodIn_ca (goodIn_r _ [205, 168, 81, 206, 207, 208, 2, 209, 86, 87, 16, 210, 211, 212, 213, 214, 174, 175, 178, 179, 180, 15, 181, 94, 215, 216, 217, 218, 219, 37, 102, 103, 104, 105, 29, 24, 28, 106, 107, 108, 109, 23, 110, 53, 111, 112, 113, 27, 114, 59, 115, 607, 608, 609, 610, 611, 630, 631, 632, 633, 634, 635, 636, 637, 648, 649, 650, 651, 644, 645, 646, 647] (by decide +kernel) (by decide +kernel)) (goodIn_sub (fun _ h => List.mem_append_left _ (List.mem_append_left _ (List.mem_append_right _ h))) (by decide +kernel))) (goodIn_sub (fun _ h => List.mem_append_left _ (List.mem_append_right _ h)) (by decide +kernel))
set_option maxRecDepth 20000 in
theorem gL_law_L_output : GoodIn wsL_law (va_wsS RL 76 yL_output wsL_output) := goodIn_app (goodIn_of _ (by decide +kernel)) ggL_law_L_output
set_option maxRecDepth 20000 in
theorem ggL_law_X5_output : GoodIn wsL_law wsX5_output := goodIn_r _ [223, 152, 69, 199, 200, 201, 5, 202, 121, 122, 123, 124, 125, 126, 127, 128, 129, 130, 70, 73, 131, 71, 72, 132, 133, 134, 135, 136, 65, 137, 138, 139, 140, 141, 142, 143, 144, 145, 146, 147, 148, 149, 150, 151, 153, 154, 155, 156, 66, 67, 157, 158, 159, 160, 612, 613, 614, 615, 616, 617, 618, 619, 620, 621, 622, 623, 624, 625, 626, 627, 628, 629] (by decide +kernel) (by decide +kernel)
set_option maxRecDepth 20000 in
theorem gL_law_X5_output : GoodIn wsL_law (wsV RL 79 RX5 yX5_output wsX5_output) := goodIn_app (goodIn_of _ (by decide +kernel)) ggL_law_X5_output
set_option maxRecDepth 20000 in
theorem ggL_law_L_value : GoodIn wsL_law wsL_value := goodIn_ca (goodIn_r _ [226, 168, 227, 228, 229, 2, 230, 16, 211, 212, 213, 214, 174, 175, 178, 179, 180, 15, 181, 94, 231, 232, 233, 234, 95, 235, 190, 191, 192, 38, 236, 237, 238, 607, 608, 609, 610, 611, 630, 631, 632, 633, 634, 635, 636, 637] (by decide +kernel) (by decide +kernel)) (goodIn_sub (fun _ h => List.mem_append_left _ (List.mem_append_right _ h)) (by decide +kernel))
set_option maxRecDepth 20000 in
theorem gL_law_L_value : GoodIn wsL_law (va_wsS RL 80 yL_value wsL_value) := goodIn_app (goodIn_of _ (by decide +kernel)) ggL_law_L_value
