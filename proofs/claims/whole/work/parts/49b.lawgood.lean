set_option maxRecDepth 20000 in
theorem ggL_law_X5_init : GoodIn wsL_law wsX5_init := goodIn_r _ [9, 10, 11, 12, 13, 14, 15, 16, 17, 18, 19, 20, 21, 22, 23, 24, 25, 26, 27, 28, 29, 30, 31, 32, 33, 34, 35, 36, 37, 38, 39, 40, 41, 42, 43, 44, 45, 46, 47, 48, 49, 50, 51, 52, 53, 54, 55, 56, 57, 58, 59, 60, 61, 62, 63, 64, 65, 66, 67, 68, 69, 70, 71, 72, 73, 74, 75, 76, 77, 78, 79, 80, 81, 82, 83, 84, 85, 86, 87, 88, 775, 776, 777, 778, 779, 780, 751, 752, 753, 754, 755, 756, 757, 781, 782, 783, 784, 785, 786, 787, 788, 789, 790, 791, 792, 793, 794, 795, 796, 797] (by decide +kernel) (by decide +kernel)
set_option maxRecDepth 20000 in
theorem gL_law_X5_init : GoodIn wsL_law (wsX5_init) := ggL_law_X5_init
set_option maxRecDepth 20000 in
theorem ggL_law_X6_init : GoodIn wsL_law wsX6_init := goodIn_r _ [91, 92, 11, 12, 50, 93, 94, 95, 96, 97, 98, 99, 100, 101, 758, 759, 760, 761, 762, 763, 764, 765, 766, 767, 768, 769, 770, 771, 772, 773, 774] (by decide +kernel) (by decide +kernel)
set_option maxRecDepth 20000 in
theorem gL_law_X6_init : GoodIn wsL_law (wsX6_init) := ggL_law_X6_init
set_option maxRecDepth 20000 in
theorem ggL_law_L_link : GoodIn wsL_law wsL_link := goodIn_ca (goodIn_ca (goodIn_r _ [105, 106, 107, 108, 109, 110, 2, 111, 112, 113, 16, 114, 25, 115, 116, 117, 118, 119, 120, 121, 122, 24, 123, 77, 76, 124, 125, 126, 127, 75, 128, 129, 130, 15, 131, 45, 40, 41, 42, 43, 44, 132, 133, 134, 28, 135, 51, 136, 137, 138, 139, 140, 141, 142, 143, 52, 53, 54, 55, 751, 752, 753, 754, 755, 756, 757, 775, 776, 777, 778, 779, 780, 790, 791, 792, 793] (by decide +kernel) (by decide +kernel)) (goodIn_sub (fun _ h => List.mem_append_left _ (List.mem_append_left _ (List.mem_append_right _ h))) (by decide +kernel))) (goodIn_sub (fun _ h => List.mem_append_left _ (List.mem_append_right _ h)) (by decide +kernel))
set_option maxRecDepth 20000 in
theorem gL_law_L_link : GoodIn wsL_law (va_wsS RL 82 yL_link wsL_link) := goodIn_app (goodIn_of _ (by decide +kernel)) ggL_law_L_link
set_option maxRecDepth 20000 in
theorem ggL_law_X6_link : GoodIn wsL_law wsX6_link := goodIn_r _ [147, 93, 148, 149, 5, 150, 151, 152, 153, 154, 155, 156, 157, 158, 159, 160, 94, 161, 162, 163, 164, 758, 759, 760, 761, 762, 763, 764, 765, 766, 767, 768, 769, 770, 771, 772, 773, 774] (by decide +kernel) (by decide +kernel)
set_option maxRecDepth 20000 in
theorem gL_law_X6_link : GoodIn wsL_law (wsV RL 87 RX6 yX6_link wsX6_link) := goodIn_app (goodIn_of _ (by decide +kernel)) ggL_law_X6_link
set_option maxRecDepth 20000 in
theorem ggL_law_X6_thrown : GoodIn wsL_law wsX6_thrown := goodIn_r _ [168, 155, 758, 759, 760, 761, 762, 763, 764, 765, 766, 767, 768, 769, 770, 771, 772, 773, 774] (by decide +kernel) (by decide +kernel)
set_option maxRecDepth 20000 in
theorem gL_law_X6_thrown : GoodIn wsL_law (wsV RL 88 RX6 yX6_thrown wsX6_thrown) := goodIn_app (goodIn_of _ (by decide +kernel)) ggL_law_X6_thrown
set_option maxRecDepth 20000 in
theorem ggL_law_L_cut : GoodIn wsL_law wsL_cut := goodIn_ca (goodIn_ca (goodIn_r _ [171, 172, 107, 173, 174, 175, 2, 176, 112, 113, 16, 114, 25, 177, 178, 179, 180, 181, 182, 120, 121, 122, 24, 123, 77, 76, 124, 125, 126, 127, 75, 128, 129, 130, 15, 131, 45, 40, 41, 42, 43, 44, 132, 133, 134, 28, 135, 51, 136, 137, 138, 139, 183, 184, 185, 186, 187, 188, 189, 190, 191, 53, 54, 55, 751, 752, 753, 754, 755, 756, 757, 775, 776, 777, 778, 779, 780, 790, 791, 792, 793] (by decide +kernel) (by decide +kernel)) (goodIn_sub (fun _ h => List.mem_append_left _ (List.mem_append_left _ (List.mem_append_right _ h))) (by decide +kernel))) (goodIn_sub (fun _ h => List.mem_append_right _ h) (by decide +kernel))
set_option maxRecDepth 20000 in
theorem gL_law_L_cut : GoodIn wsL_law (va_wsS RL 91 yL_cut wsL_cut) := goodIn_app (goodIn_of _ (by decide +kernel)) ggL_law_L_cut
set_option maxRecDepth 20000 in
theorem ggL_law_X6_cut : GoodIn wsL_law wsX6_cut := goodIn_r _ [195, 93, 196, 197, 198, 5, 199, 148, 149, 150, 151, 152, 153, 154, 155, 156, 157, 158, 159, 160, 94, 758, 759, 760, 761, 762, 763, 764, 765, 766, 767, 768, 769, 770, 771, 772, 773, 774] (by decide +kernel) (by decide +kernel)
set_option maxRecDepth 20000 in
theorem gL_law_X6_cut : GoodIn wsL_law (wsV RL 93 RX6 yX6_cut wsX6_cut) := goodIn_app (goodIn_of _ (by decide +kernel)) ggL_law_X6_cut
set_option maxRecDepth 20000 in
theorem ggL_law_L_bend : GoodIn wsL_law wsL_bend := goodIn_ca (goodIn_ca (goodIn_r _ [202, 172, 106, 203, 204, 205, 2, 206, 25, 16, 207, 177, 178, 179, 180, 181, 182, 114, 115, 116, 117, 118, 119, 120, 121, 122, 24, 123, 77, 76, 124, 125, 126, 127, 75, 128, 129, 130, 15, 131, 45, 40, 41, 42, 43, 44, 132, 133, 134, 28, 135, 51, 136, 137, 138, 139, 208, 209, 53, 54, 55, 751, 752, 753, 754, 755, 756, 757, 775, 776, 777, 778, 779, 780, 790, 791, 792, 793] (by decide +kernel) (by decide +kernel)) (goodIn_sub (fun _ h => List.mem_append_right _ h) (by decide +kernel))) (goodIn_sub (fun _ h => List.mem_append_left _ (List.mem_append_right _ h)) (by decide +kernel))
set_option maxRecDepth 20000 in
theorem gL_law_L_bend : GoodIn wsL_law (va_wsS RL 94 yL_bend wsL_bend) := goodIn_app (goodIn_of _ (by decide +kernel)) ggL_law_L_bend
set_option maxRecDepth 20000 in
theorem ggL_law_X6_bend : GoodIn wsL_law wsX6_bend := goodIn_r _ [213, 196, 197, 198, 5, 199, 93, 148, 149, 150, 151, 152, 153, 154, 155, 214, 215, 216, 217, 156, 157, 158, 159, 160, 94, 758, 759, 760, 761, 762, 763, 764, 765, 766, 767, 768, 769, 770, 771, 772, 773, 774] (by decide +kernel) (by decide +kernel)
set_option maxRecDepth 20000 in
theorem gL_law_X6_bend : GoodIn wsL_law (wsV RL 97 RX6 yX6_bend wsX6_bend) := goodIn_app (goodIn_of _ (by decide +kernel)) ggL_law_X6_bend
set_option maxRecDepth 20000 in
theorem ggL_law_X5_turn : GoodIn wsL_law wsX5_turn := goodIn_r _ [221, 25, 16, 21, 222, 114, 120, 121, 122, 24, 123, 77, 76, 124, 125, 126, 127, 75, 128, 129, 130, 15, 131, 45, 40, 41, 42, 43, 44, 132, 133, 134, 28, 135, 51, 136, 137, 138, 139, 223, 224, 225, 226, 227, 228, 229, 230, 191, 53, 54, 55, 231, 52, 232, 233, 234, 20, 235, 236, 68, 237, 238, 239, 240, 60, 241, 242, 243, 244, 245, 246, 247, 248, 249, 250, 251, 252, 253, 254, 255, 61, 62, 63, 64, 256, 257, 258, 259, 66, 67, 260, 261, 262, 263, 264, 265, 266, 65, 267, 268, 269, 208, 751, 752, 753, 754, 755, 756, 757, 781, 782, 783, 784, 785, 786, 787, 788, 789, 775, 776, 777, 778, 779, 780, 790, 791, 792, 793] (by decide +kernel) (by decide +kernel)
set_option maxRecDepth 20000 in
theorem gL_law_X5_turn : GoodIn wsL_law (wsV RL 98 RX5 yX5_turn wsX5_turn) := goodIn_app (goodIn_of _ (by decide +kernel)) ggL_law_X5_turn
set_option maxRecDepth 20000 in
theorem ggL_law_X6_turn : GoodIn wsL_law wsX6_turn := goodIn_r _ [273, 155, 93, 96, 156, 157, 158, 5, 159, 160, 94, 274, 275, 276, 277, 278, 279, 280, 281, 282, 283, 100, 101, 284, 285, 286, 287, 97, 98, 99, 288, 289, 290, 758, 759, 760, 761, 762, 763, 764, 765, 766, 767, 768, 769, 770, 771, 772, 773, 774] (by decide +kernel) (by decide +kernel)
set_option maxRecDepth 20000 in
theorem gL_law_X6_turn : GoodIn wsL_law (wsV RL 101 RX6 yX6_turn wsX6_turn) := goodIn_app (goodIn_of _ (by decide +kernel)) ggL_law_X6_turn
set_option maxRecDepth 20000 in
theorem ggL_law_L_weight : GoodIn wsL_law wsL_weight := goodIn_ca (goodIn_ca (goodIn_r _ [293, 172, 106, 294, 295, 296, 2, 297, 16, 298, 299, 300, 301, 302, 181, 182, 114, 303, 304, 305, 118, 119, 306, 307, 308, 309, 25, 120, 121, 122, 24, 123, 77, 76, 124, 125, 126, 127, 75, 128, 129, 130, 15, 131, 45, 40, 41, 42, 43, 44, 132, 133, 134, 28, 135, 51, 136, 137, 138, 139, 208, 209, 53, 54, 55, 751, 752, 753, 754, 755, 756, 757, 775, 776, 777, 778, 779, 780, 790, 791, 792, 793] (by decide +kernel) (by decide +kernel)) (goodIn_sub (fun _ h => List.mem_append_right _ h) (by decide +kernel))) (goodIn_sub (fun _ h => List.mem_append_left _ (List.mem_append_right _ h)) (by decide +kernel))
set_option maxRecDepth 20000 in
theorem gL_law_L_weight : GoodIn wsL_law (va_wsS RL 102 yL_weight wsL_weight) := goodIn_app (goodIn_of _ (by decide +kernel)) ggL_law_L_weight
set_option maxRecDepth 20000 in
theorem ggL_law_X6_weight : GoodIn wsL_law wsX6_weight := goodIn_r _ [313, 314, 315, 316, 5, 317, 318, 319, 320, 321, 93, 148, 149, 150, 151, 152, 153, 154, 155, 214, 215, 216, 217, 156, 157, 158, 159, 160, 94, 758, 759, 760, 761, 762, 763, 764, 765, 766, 767, 768, 769, 770, 771, 772, 773, 774] (by decide +kernel) (by decide +kernel)
set_option maxRecDepth 20000 in
theorem gL_law_X6_weight : GoodIn wsL_law (wsV RL 104 RX6 yX6_weight wsX6_weight) := goodIn_app (goodIn_of _ (by decide +kernel)) ggL_law_X6_weight
set_option maxRecDepth 20000 in
theorem ggL_law_L_hanger : GoodIn wsL_law wsL_hanger := goodIn_ca (goodIn_ca (goodIn_r _ [324, 172, 106, 325, 326, 327, 2, 328, 16, 329, 299, 300, 301, 302, 181, 182, 114, 303, 304, 305, 118, 119, 306, 307, 308, 309, 25, 120, 121, 122, 24, 123, 77, 76, 124, 125, 126, 127, 75, 128, 129, 130, 15, 131, 45, 40, 41, 42, 43, 44, 132, 133, 134, 28, 135, 51, 136, 137, 138, 139, 208, 209, 53, 54, 55, 751, 752, 753, 754, 755, 756, 757, 775, 776, 777, 778, 779, 780, 790, 791, 792, 793] (by decide +kernel) (by decide +kernel)) (goodIn_sub (fun _ h => List.mem_append_right _ h) (by decide +kernel))) (goodIn_sub (fun _ h => List.mem_append_left _ (List.mem_append_right _ h)) (by decide +kernel))
set_option maxRecDepth 20000 in
theorem gL_law_L_hanger : GoodIn wsL_law (va_wsS RL 105 yL_hanger wsL_hanger) := goodIn_app (goodIn_of _ (by decide +kernel)) ggL_law_L_hanger
set_option maxRecDepth 20000 in
theorem ggL_law_X6_hanger : GoodIn wsL_law wsX6_hanger := goodIn_r _ [333, 314, 315, 316, 5, 317, 318, 319, 320, 321, 93, 148, 149, 150, 151, 152, 153, 154, 155, 214, 215, 216, 217, 156, 157, 158, 159, 160, 94, 758, 759, 760, 761, 762, 763, 764, 765, 766, 767, 768, 769, 770, 771, 772, 773, 774] (by decide +kernel) (by decide +kernel)
set_option maxRecDepth 20000 in
theorem gL_law_X6_hanger : GoodIn wsL_law (wsV RL 107 RX6 yX6_hanger wsX6_hanger) := goodIn_app (goodIn_of _ (by decide +kernel)) ggL_law_X6_hanger
set_option maxRecDepth 20000 in
theorem ggL_law_L_prop : GoodIn wsL_law wsL_prop := goodIn_ca (goodIn_ca (goodIn_r _ [336, 172, 106, 337, 338, 339, 2, 340, 16, 341, 299, 300, 301, 302, 181, 182, 114, 303, 304, 305, 118, 119, 306, 307, 308, 309, 25, 120, 121, 122, 24, 123, 77, 76, 124, 125, 126, 127, 75, 128, 129, 130, 15, 131, 45, 40, 41, 42, 43, 44, 132, 133, 134, 28, 135, 51, 136, 137, 138, 139, 208, 209, 53, 54, 55, 751, 752, 753, 754, 755, 756, 757, 775, 776, 777, 778, 779, 780, 790, 791, 792, 793] (by decide +kernel) (by decide +kernel)) (goodIn_sub (fun _ h => List.mem_append_right _ h) (by decide +kernel))) (goodIn_sub (fun _ h => List.mem_append_left _ (List.mem_append_right _ h)) (by decide +kernel))
set_option maxRecDepth 20000 in
theorem gL_law_L_prop : GoodIn wsL_law (va_wsS RL 108 yL_prop wsL_prop) := goodIn_app (goodIn_of _ (by decide +kernel)) ggL_law_L_prop
set_option maxRecDepth 20000 in
theorem ggL_law_X6_prop : GoodIn wsL_law wsX6_prop := goodIn_r _ [345, 314, 315, 316, 5, 317, 318, 319, 320, 321, 93, 148, 149, 150, 151, 152, 153, 154, 155, 214, 215, 216, 217, 156, 157, 158, 159, 160, 94, 758, 759, 760, 761, 762, 763, 764, 765, 766, 767, 768, 769, 770, 771, 772, 773, 774] (by decide +kernel) (by decide +kernel)
set_option maxRecDepth 20000 in
theorem gL_law_X6_prop : GoodIn wsL_law (wsV RL 110 RX6 yX6_prop wsX6_prop) := goodIn_app (goodIn_of _ (by decide +kernel)) ggL_law_X6_prop
set_option maxRecDepth 20000 in
theorem ggL_law_L_move : GoodIn wsL_law wsL_move := goodIn_ca (goodIn_ca (goodIn_r _ [348, 172, 106, 349, 350, 351, 2, 352, 118, 119, 25, 16, 299, 300, 301, 302, 181, 182, 114, 120, 121, 122, 24, 123, 77, 76, 124, 125, 126, 127, 75, 128, 129, 130, 15, 131, 45, 40, 41, 42, 43, 44, 132, 133, 134, 28, 135, 51, 136, 137, 138, 139, 353, 354, 355, 356, 357, 252, 253, 254, 231, 52, 53, 54, 55, 751, 752, 753, 754, 755, 756, 757, 775, 776, 777, 778, 779, 780, 790, 791, 792, 793] (by decide +kernel) (by decide +kernel)) (goodIn_sub (fun _ h => List.mem_append_left _ (List.mem_append_right _ h)) (by decide +kernel))) (goodIn_sub (fun _ h => List.mem_append_right _ h) (by decide +kernel))
set_option maxRecDepth 20000 in
theorem gL_law_L_move : GoodIn wsL_law (va_wsS RL 111 yL_move wsL_move) := goodIn_app (goodIn_of _ (by decide +kernel)) ggL_law_L_move
set_option maxRecDepth 20000 in
theorem ggL_law_X6_move : GoodIn wsL_law wsX6_move := goodIn_r _ [361, 318, 319, 320, 5, 321, 93, 148, 149, 150, 151, 152, 153, 154, 155, 156, 157, 158, 159, 160, 94, 362, 363, 364, 365, 758, 759, 760, 761, 762, 763, 764, 765, 766, 767, 768, 769, 770, 771, 772, 773, 774] (by decide +kernel) (by decide +kernel)
set_option maxRecDepth 20000 in
theorem gL_law_X6_move : GoodIn wsL_law (wsV RL 113 RX6 yX6_move wsX6_move) := goodIn_app (goodIn_of _ (by decide +kernel)) ggL_law_X6_move
set_option maxRecDepth 20000 in
theorem ggL_law_L_set : GoodIn wsL_law wsL_set := goodIn_ca (goodIn_ca (goodIn_r _ [368, 172, 106, 369, 370, 371, 2, 372, 118, 119, 16, 373, 374, 375, 376, 181, 182, 377, 378, 379, 380, 381, 382, 306, 307, 308, 309, 25, 120, 121, 122, 24, 123, 77, 76, 124, 125, 126, 127, 75, 128, 129, 130, 15, 131, 45, 40, 41, 42, 43, 44, 132, 133, 134, 28, 135, 51, 136, 137, 138, 139, 208, 209, 53, 54, 55, 751, 752, 753, 754, 755, 756, 757, 775, 776, 777, 778, 779, 780, 790, 791, 792, 793] (by decide +kernel) (by decide +kernel)) (goodIn_sub (fun _ h => List.mem_append_left _ (List.mem_append_right _ h)) (by decide +kernel))) (goodIn_sub (fun _ h => List.mem_append_right _ h) (by decide +kernel))
set_option maxRecDepth 20000 in
theorem gL_law_L_set : GoodIn wsL_law (va_wsS RL 114 yL_set wsL_set) := goodIn_app (goodIn_of _ (by decide +kernel)) ggL_law_L_set
set_option maxRecDepth 20000 in
theorem ggL_law_X6_set : GoodIn wsL_law wsX6_set := goodIn_r _ [386, 148, 149, 5, 150, 151, 152, 153, 154, 155, 214, 215, 216, 217, 93, 156, 157, 158, 159, 160, 94, 758, 759, 760, 761, 762, 763, 764, 765, 766, 767, 768, 769, 770, 771, 772, 773, 774] (by decide +kernel) (by decide +kernel)
set_option maxRecDepth 20000 in
theorem gL_law_X6_set : GoodIn wsL_law (wsV RL 116 RX6 yX6_set wsX6_set) := goodIn_app (goodIn_of _ (by decide +kernel)) ggL_law_X6_set
set_option maxRecDepth 20000 in
theorem ggL_law_L_append : GoodIn wsL_law wsL_append := goodIn_ca (goodIn_ca (goodIn_r _ [389, 106, 107, 390, 391, 392, 2, 393, 118, 119, 112, 113, 34, 29, 209, 53, 54, 28, 55, 51, 751, 752, 753, 754, 755, 756, 757, 793] (by decide +kernel) (by decide +kernel)) (goodIn_sub (fun _ h => List.mem_append_left _ (List.mem_append_right _ h)) (by decide +kernel))) (goodIn_sub (fun _ h => List.mem_append_left _ (List.mem_append_left _ (List.mem_append_right _ h))) (by decide +kernel))
set_option maxRecDepth 20000 in
theorem gL_law_L_append : GoodIn wsL_law (va_wsS RL 117 yL_append wsL_append) := goodIn_app (goodIn_of _ (by decide +kernel)) ggL_law_L_append
set_option maxRecDepth 20000 in
theorem ggL_law_X6_append : GoodIn wsL_law wsX6_append := goodIn_r _ [397, 398, 95, 148, 149, 5, 150, 151, 152, 153, 154, 155, 758, 759, 760, 761, 762, 763, 764, 765, 766, 767, 768, 769, 770, 771, 772, 773, 774] (by decide +kernel) (by decide +kernel)
set_option maxRecDepth 20000 in
theorem gL_law_X6_append : GoodIn wsL_law (wsV RL 119 RX6 yX6_append wsX6_append) := goodIn_app (goodIn_of _ (by decide +kernel)) ggL_law_X6_append
set_option maxRecDepth 20000 in
theorem ggL_law_X5_clearBuffer : GoodIn wsL_law wsX5_clearBuffer := goodIn_r _ [402, 34, 751, 752, 753, 754, 755, 756, 757] (by decide +kernel) (by decide +kernel)
set_option maxRecDepth 20000 in
theorem gL_law_X5_clearBuffer : GoodIn wsL_law (wsV RL 120 RX5 yX5_clearBuffer wsX5_clearBuffer) := goodIn_app (goodIn_of _ (by decide +kernel)) ggL_law_X5_clearBuffer
set_option maxRecDepth 20000 in
theorem ggL_law_X6_clearBuffer : GoodIn wsL_law wsX6_clearBuffer := goodIn_r _ [406, 155, 398, 758, 759, 760, 761, 762, 763, 764, 765, 766, 767, 768, 769, 770, 771, 772, 773, 774] (by decide +kernel) (by decide +kernel)
set_option maxRecDepth 20000 in
theorem gL_law_X6_clearBuffer : GoodIn wsL_law (wsV RL 123 RX6 yX6_clearBuffer wsX6_clearBuffer) := goodIn_app (goodIn_of _ (by decide +kernel)) ggL_law_X6_clearBuffer
set_option maxRecDepth 20000 in
theorem ggL_law_X5_firstError : GoodIn wsL_law wsX5_firstError := goodIn_r _ [410, 33, 29, 34, 411, 412, 413, 32, 414, 84, 85, 86, 87, 415, 416, 417, 28, 418, 51, 419, 137, 138, 139, 420, 421, 422, 423, 424, 425, 426, 427, 428, 53, 54, 55, 429, 430, 431, 432, 433, 434, 435, 436, 437, 438, 439, 440, 441, 442, 443, 444, 751, 752, 753, 754, 755, 756, 757, 794, 795, 796, 797, 793] (by decide +kernel) (by decide +kernel)
set_option maxRecDepth 20000 in
theorem gL_law_X5_firstError : GoodIn wsL_law (wsV RL 124 RX5 yX5_firstError wsX5_firstError) := goodIn_app (goodIn_of _ (by decide +kernel)) ggL_law_X5_firstError
set_option maxRecDepth 20000 in
theorem ggL_law_X6_firstError : GoodIn wsL_law wsX6_firstError := goodIn_r _ [448, 155, 449, 450, 398, 451, 452, 453, 5, 454, 455, 456, 457, 458, 95, 93, 459, 460, 461, 462, 148, 149, 150, 463, 464, 465, 466, 161, 162, 163, 164, 758, 759, 760, 761, 762, 763, 764, 765, 766, 767, 768, 769, 770, 771, 772, 773, 774] (by decide +kernel) (by decide +kernel)
set_option maxRecDepth 20000 in
theorem gL_law_X6_firstError : GoodIn wsL_law (wsV RL 127 RX6 yX6_firstError wsX6_firstError) := goodIn_app (goodIn_of _ (by decide +kernel)) ggL_law_X6_firstError
set_option maxRecDepth 20000 in
theorem ggL_law_L_shape : GoodIn wsL_law wsL_shape := goodIn_ca (goodIn_r _ [469, 106, 470, 471, 472, 2, 473, 118, 119, 33, 29, 34, 25, 16, 114, 474, 475, 476, 411, 412, 413, 32, 414, 84, 85, 86, 87, 415, 416, 417, 28, 418, 51, 419, 137, 138, 139, 420, 421, 422, 423, 424, 425, 426, 427, 428, 53, 54, 55, 429, 430, 431, 432, 433, 434, 435, 436, 437, 438, 439, 440, 441, 442, 443, 444, 477, 478, 479, 480, 120, 121, 122, 24, 123, 77, 76, 124, 125, 126, 127, 75, 128, 129, 130, 15, 131, 45, 40, 41, 42, 43, 44, 132, 133, 134, 135, 136, 481, 482, 483, 484, 485, 751, 752, 753, 754, 755, 756, 757, 775, 776, 777, 778, 779, 780, 794, 795, 796, 797, 793, 790, 791, 792] (by decide +kernel) (by decide +kernel)) (goodIn_sub (fun _ h => List.mem_append_left _ (List.mem_append_right _ h)) (by decide +kernel))
set_option maxRecDepth 20000 in
theorem gL_law_L_shape : GoodIn wsL_law (va_wsS RL 128 yL_shape wsL_shape) := goodIn_app (goodIn_of _ (by decide +kernel)) ggL_law_L_shape
set_option maxRecDepth 20000 in
theorem ggL_law_X6_shape : GoodIn wsL_law wsX6_shape := goodIn_r _ [489, 449, 93, 398, 451, 452, 453, 5, 454, 450, 455, 456, 457, 458, 95, 459, 460, 461, 462, 148, 149, 150, 463, 464, 465, 466, 161, 162, 163, 164, 151, 152, 153, 154, 155, 156, 157, 158, 159, 160, 94, 758, 759, 760, 761, 762, 763, 764, 765, 766, 767, 768, 769, 770, 771, 772, 773, 774] (by decide +kernel) (by decide +kernel)
set_option maxRecDepth 20000 in
theorem gL_law_X6_shape : GoodIn wsL_law (wsV RL 131 RX6 yX6_shape wsX6_shape) := goodIn_app (goodIn_of _ (by decide +kernel)) ggL_law_X6_shape
set_option maxRecDepth 20000 in
theorem ggL_law_L_undo : GoodIn wsL_law wsL_undo := goodIn_ca (goodIn_r _ [492, 107, 493, 494, 495, 2, 496, 112, 113, 25, 497, 16, 498, 499, 500, 24, 501, 77, 124, 125, 126, 127, 76, 75, 128, 129, 130, 15, 131, 45, 40, 41, 42, 43, 44, 132, 133, 134, 28, 135, 51, 136, 137, 138, 139, 751, 752, 753, 754, 755, 756, 757, 790, 791, 792, 775, 776, 777, 778, 779, 780, 793] (by decide +kernel) (by decide +kernel)) (goodIn_sub (fun _ h => List.mem_append_left _ (List.mem_append_left _ (List.mem_append_right _ h))) (by decide +kernel))
set_option maxRecDepth 20000 in
theorem gL_law_L_undo : GoodIn wsL_law (va_wsS RL 132 yL_undo wsL_undo) := goodIn_app (goodIn_of _ (by decide +kernel)) ggL_law_L_undo
set_option maxRecDepth 20000 in
theorem ggL_law_X6_undo : GoodIn wsL_law wsX6_undo := goodIn_r _ [505, 160, 93, 94, 151, 152, 153, 5, 154, 155, 758, 759, 760, 761, 762, 763, 764, 765, 766, 767, 768, 769, 770, 771, 772, 773, 774] (by decide +kernel) (by decide +kernel)
set_option maxRecDepth 20000 in
theorem gL_law_X6_undo : GoodIn wsL_law (wsV RL 134 RX6 yX6_undo wsX6_undo) := goodIn_app (goodIn_of _ (by decide +kernel)) ggL_law_X6_undo
set_option maxRecDepth 20000 in
theorem ggL_law_L_linkOf : GoodIn wsL_law wsL_linkOf := goodIn_ca (goodIn_ca (goodIn_r _ [508, 172, 106, 509, 510, 511, 2, 512, 21, 16, 207, 513, 177, 178, 179, 180, 181, 182, 114, 514, 515, 516, 118, 119, 232, 233, 234, 20, 235, 236, 68, 237, 238, 239, 240, 60, 241, 242, 53, 54, 28, 55, 51, 243, 137, 138, 139, 244, 245, 246, 247, 248, 249, 250, 251, 252, 253, 254, 255, 61, 62, 63, 64, 256, 257, 258, 259, 66, 67, 260, 261, 262, 263, 264, 265, 266, 65, 267, 268, 269, 208, 517, 518, 519, 520, 751, 752, 753, 754, 755, 756, 757, 775, 776, 777, 778, 779, 780, 781, 782, 783, 784, 785, 786, 787, 788, 789, 793] (by decide +kernel) (by decide +kernel)) (goodIn_sub (fun _ h => List.mem_append_right _ h) (by decide +kernel))) (goodIn_sub (fun _ h => List.mem_append_left _ (List.mem_append_right _ h)) (by decide +kernel))
set_option maxRecDepth 20000 in
theorem gL_law_L_linkOf : GoodIn wsL_law (va_wsS RL 135 yL_linkOf wsL_linkOf) := goodIn_app (goodIn_of _ (by decide +kernel)) ggL_law_L_linkOf
set_option maxRecDepth 20000 in
theorem ggL_law_X6_linkOf : GoodIn wsL_law wsX6_linkOf := goodIn_r _ [524, 196, 197, 198, 5, 199, 93, 148, 149, 150, 151, 152, 153, 154, 155, 525, 526, 527, 528, 101, 278, 279, 280, 281, 282, 283, 96, 100, 284, 285, 286, 287, 97, 98, 99, 288, 289, 290, 758, 759, 760, 761, 762, 763, 764, 765, 766, 767, 768, 769, 770, 771, 772, 773, 774] (by decide +kernel) (by decide +kernel)
set_option maxRecDepth 20000 in
theorem gL_law_X6_linkOf : GoodIn wsL_law (wsV RL 137 RX6 yX6_linkOf wsX6_linkOf) := goodIn_app (goodIn_of _ (by decide +kernel)) ggL_law_X6_linkOf
set_option maxRecDepth 20000 in
theorem ggL_law_L_joint : GoodIn wsL_law wsL_joint := goodIn_ca (goodIn_ca (goodIn_r _ [531, 172, 106, 532, 533, 534, 2, 535, 21, 16, 222, 298, 329, 341, 536, 537, 538, 539, 299, 300, 301, 302, 181, 182, 114, 514, 515, 516, 118, 119, 232, 233, 234, 20, 235, 236, 68, 237, 238, 239, 240, 60, 241, 242, 53, 54, 28, 55, 51, 243, 137, 138, 139, 244, 245, 246, 247, 248, 249, 250, 251, 252, 253, 254, 255, 61, 62, 63, 64, 256, 257, 258, 259, 66, 67, 260, 261, 262, 263, 264, 265, 266, 65, 267, 268, 269, 208, 751, 752, 753, 754, 755, 756, 757, 781, 782, 783, 784, 785, 786, 787, 788, 789, 775, 776, 777, 778, 779, 780, 793] (by decide +kernel) (by decide +kernel)) (goodIn_sub (fun _ h => List.mem_append_right _ h) (by decide +kernel))) (goodIn_sub (fun _ h => List.mem_append_left _ (List.mem_append_right _ h)) (by decide +kernel))
set_option maxRecDepth 20000 in
theorem gL_law_L_joint : GoodIn wsL_law (va_wsS RL 138 yL_joint wsL_joint) := goodIn_app (goodIn_of _ (by decide +kernel)) ggL_law_L_joint
set_option maxRecDepth 20000 in
theorem ggL_law_X6_joint : GoodIn wsL_law wsX6_joint := goodIn_r _ [543, 318, 319, 320, 5, 321, 93, 148, 149, 150, 151, 152, 153, 154, 155, 544, 545, 546, 547, 96, 97, 98, 99, 100, 278, 279, 280, 281, 282, 283, 101, 284, 285, 286, 287, 288, 289, 290, 758, 759, 760, 761, 762, 763, 764, 765, 766, 767, 768, 769, 770, 771, 772, 773, 774] (by decide +kernel) (by decide +kernel)
set_option maxRecDepth 20000 in
theorem gL_law_X6_joint : GoodIn wsL_law (wsV RL 140 RX6 yX6_joint wsX6_joint) := goodIn_app (goodIn_of _ (by decide +kernel)) ggL_law_X6_joint
set_option maxRecDepth 20000 in
theorem ggL_law_L_count : GoodIn wsL_law wsL_count := goodIn_ca (goodIn_r _ [550, 106, 551, 552, 553, 2, 554, 21, 16, 114, 298, 555, 556, 557, 222, 25, 497, 514, 515, 516, 118, 119, 232, 233, 234, 20, 235, 236, 68, 237, 238, 239, 240, 60, 241, 242, 53, 54, 28, 55, 51, 243, 137, 138, 139, 244, 245, 246, 247, 248, 249, 250, 251, 252, 253, 254, 255, 61, 62, 63, 64, 256, 257, 258, 259, 66, 67, 260, 261, 262, 263, 264, 265, 266, 65, 267, 268, 269, 558, 559, 560, 561, 562, 563, 564, 565, 566, 518, 519, 520, 567, 568, 569, 570, 571, 572, 573, 574, 208, 751, 752, 753, 754, 755, 756, 757, 775, 776, 777, 778, 779, 780, 781, 782, 783, 784, 785, 786, 787, 788, 789, 790, 791, 792, 793] (by decide +kernel) (by decide +kernel)) (goodIn_sub (fun _ h => List.mem_append_left _ (List.mem_append_right _ h)) (by decide +kernel))
set_option maxRecDepth 20000 in
theorem gL_law_L_count : GoodIn wsL_law (va_wsS RL 141 yL_count wsL_count) := goodIn_app (goodIn_of _ (by decide +kernel)) ggL_law_L_count
set_option maxRecDepth 20000 in
theorem ggL_law_X6_count : GoodIn wsL_law wsX6_count := goodIn_r _ [578, 148, 149, 5, 150, 151, 152, 153, 154, 155, 579, 580, 581, 582, 93, 282, 283, 96, 160, 278, 279, 280, 281, 100, 101, 284, 285, 286, 287, 97, 98, 99, 288, 289, 290, 583, 584, 585, 586, 587, 588, 589, 590, 591, 592, 593, 594, 595, 596, 597, 598, 758, 759, 760, 761, 762, 763, 764, 765, 766, 767, 768, 769, 770, 771, 772, 773, 774] (by decide +kernel) (by decide +kernel)
set_option maxRecDepth 20000 in
theorem gL_law_X6_count : GoodIn wsL_law (wsV RL 143 RX6 yX6_count wsX6_count) := goodIn_app (goodIn_of _ (by decide +kernel)) ggL_law_X6_count
set_option maxRecDepth 20000 in
theorem ggL_law_L_setting : GoodIn wsL_law wsL_setting := goodIn_ca (goodIn_r _ [601, 172, 602, 603, 604, 2, 605, 16, 373, 374, 375, 376, 181, 182, 208, 137, 138, 28, 139, 51, 751, 752, 753, 754, 755, 756, 757, 775, 776, 777, 778, 779, 780, 793] (by decide +kernel) (by decide +kernel)) (goodIn_sub (fun _ h => List.mem_append_right _ h) (by decide +kernel))
set_option maxRecDepth 20000 in
theorem gL_law_L_setting : GoodIn wsL_law (va_wsS RL 144 yL_setting wsL_setting) := goodIn_app (goodIn_of _ (by decide +kernel)) ggL_law_L_setting
set_option maxRecDepth 20000 in
theorem ggL_law_X6_setting : GoodIn wsL_law wsX6_setting := goodIn_r _ [609, 93, 148, 149, 5, 150, 151, 152, 153, 154, 155, 758, 759, 760, 761, 762, 763, 764, 765, 766, 767, 768, 769, 770, 771, 772, 773, 774] (by decide +kernel) (by decide +kernel)
set_option maxRecDepth 20000 in
theorem gL_law_X6_setting : GoodIn wsL_law (wsV RL 146 RX6 yX6_setting wsX6_setting) := goodIn_app (goodIn_of _ (by decide +kernel)) ggL_law_X6_setting
set_option maxRecDepth 20000 in
theorem ggL_law_L_ifWeight : GoodIn wsL_law wsL_ifWeight := goodIn_ca (goodIn_ca (goodIn_r _ [612, 172, 106, 613, 614, 615, 2, 616, 17, 16, 298, 21, 299, 300, 301, 302, 181, 182, 114, 303, 304, 305, 118, 119, 617, 129, 130, 15, 131, 45, 40, 41, 42, 43, 44, 132, 133, 134, 28, 135, 51, 136, 137, 138, 139, 209, 53, 54, 55, 232, 233, 234, 20, 235, 236, 68, 237, 238, 239, 240, 60, 241, 242, 243, 244, 245, 246, 247, 248, 249, 250, 251, 252, 253, 254, 255, 61, 62, 63, 64, 256, 257, 258, 259, 66, 67, 260, 261, 262, 263, 264, 265, 266, 65, 267, 268, 269, 751, 752, 753, 754, 755, 756, 757, 775, 776, 777, 778, 779, 780, 793, 781, 782, 783, 784, 785, 786, 787, 788, 789] (by decide +kernel) (by decide +kernel)) (goodIn_sub (fun _ h => List.mem_append_right _ h) (by decide +kernel))) (goodIn_sub (fun _ h => List.mem_append_left _ (List.mem_append_right _ h)) (by decide +kernel))
set_option maxRecDepth 20000 in
theorem gL_law_L_ifWeight : GoodIn wsL_law (va_wsS RL 147 yL_ifWeight wsL_ifWeight) := goodIn_app (goodIn_of _ (by decide +kernel)) ggL_law_L_ifWeight
set_option maxRecDepth 20000 in
theorem ggL_law_X6_ifWeight : GoodIn wsL_law wsX6_ifWeight := goodIn_r _ [621, 318, 319, 320, 5, 321, 93, 148, 149, 150, 151, 152, 153, 154, 155, 622, 623, 624, 625, 587, 588, 589, 590, 101, 278, 279, 280, 281, 282, 283, 96, 100, 284, 285, 286, 287, 97, 98, 99, 288, 289, 290, 758, 759, 760, 761, 762, 763, 764, 765, 766, 767, 768, 769, 770, 771, 772, 773, 774] (by decide +kernel) (by decide +kernel)
set_option maxRecDepth 20000 in
theorem gL_law_X6_ifWeight : GoodIn wsL_law (wsV RL 149 RX6 yX6_ifWeight wsX6_ifWeight) := goodIn_app (goodIn_of _ (by decide +kernel)) ggL_law_X6_ifWeight
set_option maxRecDepth 20000 in
theorem ggL_law_L_mostWeight : GoodIn wsL_law wsL_mostWeight := goodIn_ca (goodIn_r _ [628, 172, 629, 630, 631, 2, 632, 17, 16, 298, 21, 299, 300, 301, 302, 181, 182, 114, 617, 129, 130, 15, 131, 45, 40, 41, 42, 43, 44, 132, 133, 134, 28, 135, 51, 136, 137, 138, 139, 209, 53, 54, 55, 232, 233, 234, 20, 235, 236, 68, 237, 238, 239, 240, 60, 241, 242, 243, 244, 245, 246, 247, 248, 249, 250, 251, 252, 253, 254, 255, 61, 62, 63, 64, 256, 257, 258, 259, 66, 67, 260, 261, 262, 263, 264, 265, 266, 65, 267, 268, 269, 567, 568, 569, 570, 751, 752, 753, 754, 755, 756, 757, 775, 776, 777, 778, 779, 780, 793, 781, 782, 783, 784, 785, 786, 787, 788, 789] (by decide +kernel) (by decide +kernel)) (goodIn_sub (fun _ h => List.mem_append_right _ h) (by decide +kernel))
set_option maxRecDepth 20000 in
theorem gL_law_L_mostWeight : GoodIn wsL_law (va_wsS RL 150 yL_mostWeight wsL_mostWeight) := goodIn_app (goodIn_of _ (by decide +kernel)) ggL_law_L_mostWeight
set_option maxRecDepth 20000 in
theorem ggL_law_X6_mostWeight : GoodIn wsL_law wsX6_mostWeight := goodIn_r _ [636, 318, 319, 320, 5, 321, 93, 148, 149, 150, 151, 152, 153, 154, 155, 637, 638, 639, 640, 622, 623, 624, 625, 587, 588, 589, 590, 101, 278, 279, 280, 281, 282, 283, 96, 100, 284, 285, 286, 287, 97, 98, 99, 288, 289, 290, 758, 759, 760, 761, 762, 763, 764, 765, 766, 767, 768, 769, 770, 771, 772, 773, 774] (by decide +kernel) (by decide +kernel)
set_option maxRecDepth 20000 in
theorem gL_law_X6_mostWeight : GoodIn wsL_law (wsV RL 152 RX6 yX6_mostWeight wsX6_mostWeight) := goodIn_app (goodIn_of _ (by decide +kernel)) ggL_law_X6_mostWeight
set_option maxRecDepth 20000 in
theorem ggL_law_L_bestMove : GoodIn wsL_law wsL_bestMove := goodIn_ca (goodIn_r _ [643, 172, 644, 645, 646, 2, 647, 16, 298, 114, 17, 21, 299, 300, 301, 302, 181, 182, 208, 137, 138, 28, 139, 51, 617, 129, 130, 15, 131, 45, 40, 41, 42, 43, 44, 132, 133, 134, 135, 136, 353, 354, 355, 356, 357, 252, 253, 254, 231, 52, 53, 54, 55, 232, 233, 234, 20, 235, 236, 68, 237, 238, 239, 240, 60, 241, 242, 243, 244, 245, 246, 247, 248, 249, 250, 251, 255, 61, 62, 63, 64, 256, 257, 258, 259, 66, 67, 260, 261, 262, 263, 264, 265, 266, 65, 267, 268, 269, 751, 752, 753, 754, 755, 756, 757, 775, 776, 777, 778, 779, 780, 793, 781, 782, 783, 784, 785, 786, 787, 788, 789] (by decide +kernel) (by decide +kernel)) (goodIn_sub (fun _ h => List.mem_append_right _ h) (by decide +kernel))
set_option maxRecDepth 20000 in
theorem gL_law_L_bestMove : GoodIn wsL_law (va_wsS RL 153 yL_bestMove wsL_bestMove) := goodIn_app (goodIn_of _ (by decide +kernel)) ggL_law_L_bestMove
set_option maxRecDepth 20000 in
theorem ggL_law_X6_bestMove : GoodIn wsL_law wsX6_bestMove := goodIn_r _ [651, 318, 319, 320, 5, 321, 93, 148, 149, 150, 151, 152, 153, 154, 155, 652, 653, 654, 655, 362, 363, 364, 365, 587, 588, 589, 590, 101, 278, 279, 280, 281, 282, 283, 96, 100, 284, 285, 286, 287, 97, 98, 99, 288, 289, 290, 758, 759, 760, 761, 762, 763, 764, 765, 766, 767, 768, 769, 770, 771, 772, 773, 774] (by decide +kernel) (by decide +kernel)
set_option maxRecDepth 20000 in
theorem gL_law_X6_bestMove : GoodIn wsL_law (wsV RL 155 RX6 yX6_bestMove wsX6_bestMove) := goodIn_app (goodIn_of _ (by decide +kernel)) ggL_law_X6_bestMove
set_option maxRecDepth 20000 in
theorem ggL_law_L_bestHanger : GoodIn wsL_law wsL_bestHanger := goodIn_ca (goodIn_r _ [658, 106, 659, 660, 661, 2, 662, 16, 114, 17, 329, 663, 252, 253, 254, 21, 303, 304, 305, 118, 119, 617, 129, 130, 15, 131, 45, 40, 41, 42, 43, 44, 132, 133, 134, 28, 135, 51, 136, 137, 138, 139, 208, 209, 53, 54, 55, 232, 233, 234, 20, 235, 236, 68, 237, 238, 239, 240, 60, 241, 242, 243, 244, 245, 246, 247, 248, 249, 250, 251, 255, 61, 62, 63, 64, 256, 257, 258, 259, 66, 67, 260, 261, 262, 263, 264, 265, 266, 65, 267, 268, 269, 751, 752, 753, 754, 755, 756, 757, 775, 776, 777, 778, 779, 780, 793, 781, 782, 783, 784, 785, 786, 787, 788, 789] (by decide +kernel) (by decide +kernel)) (goodIn_sub (fun _ h => List.mem_append_left _ (List.mem_append_right _ h)) (by decide +kernel))
set_option maxRecDepth 20000 in
theorem gL_law_L_bestHanger : GoodIn wsL_law (va_wsS RL 156 yL_bestHanger wsL_bestHanger) := goodIn_app (goodIn_of _ (by decide +kernel)) ggL_law_L_bestHanger
set_option maxRecDepth 20000 in
theorem ggL_law_X6_bestHanger : GoodIn wsL_law wsX6_bestHanger := goodIn_r _ [667, 148, 149, 5, 150, 151, 152, 153, 154, 155, 668, 669, 670, 671, 93, 622, 623, 624, 625, 587, 588, 589, 590, 101, 278, 279, 280, 281, 282, 283, 96, 100, 284, 285, 286, 287, 97, 98, 99, 288, 289, 290, 758, 759, 760, 761, 762, 763, 764, 765, 766, 767, 768, 769, 770, 771, 772, 773, 774] (by decide +kernel) (by decide +kernel)
set_option maxRecDepth 20000 in
theorem gL_law_X6_bestHanger : GoodIn wsL_law (wsV RL 158 RX6 yX6_bestHanger wsX6_bestHanger) := goodIn_app (goodIn_of _ (by decide +kernel)) ggL_law_X6_bestHanger
set_option maxRecDepth 20000 in
theorem ggL_law_L_bestStep : GoodIn wsL_law wsL_bestStep := goodIn_ca (goodIn_r _ [674, 172, 675, 676, 677, 2, 678, 17, 16, 207, 21, 177, 178, 179, 180, 181, 182, 114, 617, 129, 130, 15, 131, 45, 40, 41, 42, 43, 44, 132, 133, 134, 28, 135, 51, 136, 137, 138, 139, 209, 53, 54, 55, 232, 233, 234, 20, 235, 236, 68, 237, 238, 239, 240, 60, 241, 242, 243, 244, 245, 246, 247, 248, 249, 250, 251, 252, 253, 254, 255, 61, 62, 63, 64, 256, 257, 258, 259, 66, 67, 260, 261, 262, 263, 264, 265, 266, 65, 267, 268, 269, 751, 752, 753, 754, 755, 756, 757, 775, 776, 777, 778, 779, 780, 793, 781, 782, 783, 784, 785, 786, 787, 788, 789] (by decide +kernel) (by decide +kernel)) (goodIn_sub (fun _ h => List.mem_append_right _ h) (by decide +kernel))
set_option maxRecDepth 20000 in
theorem gL_law_L_bestStep : GoodIn wsL_law (va_wsS RL 159 yL_bestStep wsL_bestStep) := goodIn_app (goodIn_of _ (by decide +kernel)) ggL_law_L_bestStep
set_option maxRecDepth 20000 in
theorem ggL_law_X6_bestStep : GoodIn wsL_law wsX6_bestStep := goodIn_r _ [682, 196, 197, 198, 5, 199, 93, 148, 149, 150, 151, 152, 153, 154, 155, 683, 684, 685, 686, 622, 623, 624, 625, 587, 588, 589, 590, 101, 278, 279, 280, 281, 282, 283, 96, 100, 284, 285, 286, 287, 97, 98, 99, 288, 289, 290, 758, 759, 760, 761, 762, 763, 764, 765, 766, 767, 768, 769, 770, 771, 772, 773, 774] (by decide +kernel) (by decide +kernel)
set_option maxRecDepth 20000 in
theorem gL_law_X6_bestStep : GoodIn wsL_law (wsV RL 161 RX6 yX6_bestStep wsX6_bestStep) := goodIn_app (goodIn_of _ (by decide +kernel)) ggL_law_X6_bestStep
set_option maxRecDepth 20000 in
theorem ggL_law_X5_evenness : GoodIn wsL_law wsX5_evenness := goodIn_r _ [690, 21, 16, 555, 556, 663, 252, 253, 254, 691, 268, 269, 232, 233, 234, 20, 235, 236, 68, 237, 238, 239, 240, 60, 241, 242, 53, 54, 28, 55, 51, 243, 137, 138, 139, 244, 245, 246, 247, 248, 249, 250, 251, 255, 61, 62, 63, 64, 256, 257, 258, 259, 66, 67, 260, 261, 262, 263, 264, 265, 266, 65, 267, 751, 752, 753, 754, 755, 756, 757, 781, 782, 783, 784, 785, 786, 787, 788, 789, 775, 776, 777, 778, 779, 780, 793] (by decide +kernel) (by decide +kernel)
set_option maxRecDepth 20000 in
theorem gL_law_X5_evenness : GoodIn wsL_law (wsV RL 162 RX5 yX5_evenness wsX5_evenness) := goodIn_app (goodIn_of _ (by decide +kernel)) ggL_law_X5_evenness
set_option maxRecDepth 20000 in
theorem ggL_law_X6_evenness : GoodIn wsL_law wsX6_evenness := goodIn_r _ [695, 155, 696, 697, 698, 5, 699, 282, 283, 278, 279, 280, 281, 93, 96, 100, 101, 284, 285, 286, 287, 97, 98, 99, 288, 289, 290, 758, 759, 760, 761, 762, 763, 764, 765, 766, 767, 768, 769, 770, 771, 772, 773, 774] (by decide +kernel) (by decide +kernel)
set_option maxRecDepth 20000 in
theorem gL_law_X6_evenness : GoodIn wsL_law (wsV RL 166 RX6 yX6_evenness wsX6_evenness) := goodIn_app (goodIn_of _ (by decide +kernel)) ggL_law_X6_evenness
set_option maxRecDepth 20000 in
theorem ggL_law_X5_digest : GoodIn wsL_law wsX5_digest := goodIn_ca (goodIn_ca (goodIn_r _ [703, 704, 16, 114, 34, 29, 705, 552, 553, 2, 554, 21, 298, 555, 556, 557, 222, 25, 497, 514, 515, 516, 118, 119, 232, 233, 234, 20, 235, 236, 68, 237, 238, 239, 240, 60, 241, 242, 53, 54, 28, 55, 51, 243, 137, 138, 139, 244, 245, 246, 247, 248, 249, 250, 251, 252, 253, 254, 255, 61, 62, 63, 64, 256, 257, 258, 259, 66, 67, 260, 261, 262, 263, 264, 265, 266, 65, 267, 268, 269, 558, 559, 560, 561, 562, 563, 564, 565, 566, 518, 519, 520, 567, 568, 569, 570, 571, 572, 573, 574, 208, 706, 707, 708, 709, 710, 603, 604, 605, 373, 374, 375, 376, 181, 182, 711, 712, 713, 714, 715, 510, 511, 512, 207, 513, 177, 178, 179, 180, 517, 716, 676, 677, 678, 17, 617, 129, 130, 15, 131, 45, 40, 41, 42, 43, 44, 132, 133, 134, 135, 136, 209, 717, 718, 719, 720, 721, 533, 534, 535, 329, 341, 536, 537, 538, 539, 299, 300, 301, 302, 722, 614, 615, 616, 303, 304, 305, 723, 630, 631, 632, 724, 645, 646, 647, 353, 354, 355, 356, 357, 231, 52, 725, 660, 661, 662, 663, 726, 688, 689, 690, 691, 727, 728, 729, 730, 731, 732, 751, 752, 753, 754, 755, 756, 757, 775, 776, 777, 778, 779, 780, 781, 782, 783, 784, 785, 786, 787, 788, 789, 790, 791, 792, 793] (by decide +kernel) (by decide +kernel)) (goodIn_sub (fun _ h => List.mem_append_left _ (List.mem_append_right _ h)) (by decide +kernel))) (goodIn_sub (fun _ h => List.mem_append_right _ h) (by decide +kernel))
set_option maxRecDepth 20000 in
theorem gL_law_X5_digest : GoodIn wsL_law (wsV RL 167 RX5 yX5_digest wsX5_digest) := goodIn_app (goodIn_of _ (by decide +kernel)) ggL_law_X5_digest
set_option maxRecDepth 20000 in
theorem ggL_law_X6_digest : GoodIn wsL_law wsX6_digest := goodIn_r _ [736, 155, 737, 738, 93, 398, 95, 579, 580, 581, 5, 582, 282, 283, 96, 160, 278, 279, 280, 281, 100, 101, 284, 285, 286, 287, 97, 98, 99, 288, 289, 290, 583, 584, 585, 586, 587, 588, 589, 590, 591, 592, 593, 594, 595, 596, 597, 598, 739, 740, 741, 742, 743, 525, 526, 527, 528, 683, 684, 685, 686, 622, 623, 624, 625, 544, 545, 546, 547, 637, 638, 639, 640, 652, 653, 654, 655, 362, 363, 364, 365, 668, 669, 670, 671, 696, 697, 698, 699, 744, 745, 746, 747, 748, 749, 750, 758, 759, 760, 761, 762, 763, 764, 765, 766, 767, 768, 769, 770, 771, 772, 773, 774] (by decide +kernel) (by decide +kernel)
set_option maxRecDepth 20000 in
theorem gL_law_X6_digest : GoodIn wsL_law (wsV RL 171 RX6 yX6_digest wsX6_digest) := goodIn_app (goodIn_of _ (by decide +kernel)) ggL_law_X6_digest
