theorem inX0 : ∀ w ∈ wsX00, w ∈ lw_tbl := fun w h => wsL_law_in w (inlX0 w h)
theorem inlX1 : ∀ w ∈ wsX10, w ∈ wsL_law := fun _ h => List.mem_append_left _ (List.mem_append_left _ (List.mem_append_left _ (List.mem_append_right _ h)))
theorem inX1 : ∀ w ∈ wsX10, w ∈ lw_tbl := fun w h => wsL_law_in w (inlX1 w h)
theorem inlX2 : ∀ w ∈ wsX20, w ∈ wsL_law := fun _ h => List.mem_append_left _ (List.mem_append_left _ (List.mem_append_right _ h))
theorem inX2 : ∀ w ∈ wsX20, w ∈ lw_tbl := fun w h => wsL_law_in w (inlX2 w h)
theorem inlX3 : ∀ w ∈ wsX30, w ∈ wsL_law := fun _ h => List.mem_append_left _ (List.mem_append_right _ h)
theorem inX3 : ∀ w ∈ wsX30, w ∈ lw_tbl := fun w h => wsL_law_in w (inlX3 w h)
theorem inlX4 : ∀ w ∈ wsX40, w ∈ wsL_law := fun _ h => List.mem_append_left _ (List.mem_append_left _ (List.mem_append_left _ (List.mem_append_left _ (List.mem_append_left _ (List.mem_append_right _ h)))))
theorem inX4 : ∀ w ∈ wsX40, w ∈ lw_tbl := fun w h => wsL_law_in w (inlX4 w h)
set_option maxRecDepth 20000 in
theorem ggL_law_X4_init : GoodIn wsL_law wsX4_init := goodIn_r _ [5, 6, 7, 8, 9, 10, 11, 12, 13, 14, 15, 16, 17, 18, 19, 20, 21, 22, 23, 24, 25, 26, 27, 28, 29, 30, 31, 32, 33, 34, 35, 36, 37, 38, 39, 40, 41, 42, 43, 44, 45, 46, 47, 48, 49, 50, 51, 52, 53, 54, 55, 56, 57, 58, 59, 60, 61, 62, 63, 64, 65, 66, 430, 431, 432, 433, 434, 435, 436, 437, 438, 439, 424, 425, 426, 427, 428, 429, 440, 441, 442, 443, 444, 445, 446, 447, 448, 449, 450, 451, 452, 453] (by decide +kernel) (by decide +kernel)
set_option maxRecDepth 20000 in
theorem gL_law_X4_init : GoodIn wsL_law (wsX4_init) := ggL_law_X4_init
set_option maxRecDepth 20000 in
theorem ggL_law_L_cell : GoodIn wsL_law wsL_cell := goodIn_r _ [70] (by decide +kernel) (by decide +kernel)
set_option maxRecDepth 20000 in
theorem gL_law_L_cell : GoodIn wsL_law (va_wsS RL 92 yL_cell wsL_cell) := goodIn_app (goodIn_of _ (by decide +kernel)) ggL_law_L_cell
set_option maxRecDepth 20000 in
theorem ggL_law_X4_undo : GoodIn wsL_law wsX4_undo := goodIn_r _ [74, 20, 12, 16, 75, 76, 77, 78, 19, 79, 58, 80, 81, 82, 83, 84, 85, 86, 87, 57, 88, 89, 90, 11, 91, 30, 31, 32, 33, 35, 36, 37, 39, 40, 41, 92, 93, 94, 15, 95, 96, 97, 98, 99, 100, 45, 46, 47, 101, 102, 103, 104, 105, 2, 106, 107, 108, 109, 110, 111, 112, 113, 114, 115, 116, 48, 117, 118, 119, 120, 121, 122, 123, 124, 125, 126, 127, 49, 128, 129, 130, 131, 132, 133, 134, 135, 50, 51, 136, 137, 138, 139, 140, 141, 142, 143, 144, 145, 146, 147, 148, 149, 150, 424, 425, 426, 427, 428, 429, 447, 448, 430, 431, 432, 433, 434, 435, 436, 437, 438, 439, 440, 441, 442, 443, 444, 445, 446] (by decide +kernel) (by decide +kernel)
set_option maxRecDepth 20000 in
theorem gL_law_X4_undo : GoodIn wsL_law (wsV RL 63 RX4 yX4_undo wsX4_undo) := goodIn_app (goodIn_of _ (by decide +kernel)) ggL_law_X4_undo
set_option maxRecDepth 20000 in
theorem ggL_law_X4_load : GoodIn wsL_law wsX4_load := goodIn_r _ [154, 25, 12, 24, 20, 16, 155, 156, 89, 90, 11, 91, 30, 31, 32, 33, 35, 36, 37, 39, 40, 41, 157, 158, 159, 23, 160, 65, 66, 64, 161, 162, 163, 164, 165, 166, 167, 168, 169, 170, 171, 172, 63, 62, 173, 174, 175, 176, 177, 178, 179, 180, 181, 182, 183, 184, 185, 186, 187, 188, 189, 190, 191, 192, 2, 193, 194, 195, 196, 197, 198, 199, 200, 201, 202, 203, 204, 205, 206, 207, 208, 209, 210, 211, 212, 213, 214, 105, 106, 215, 216, 217, 218, 219, 220, 221, 222, 223, 224, 225, 19, 226, 58, 57, 227, 228, 229, 230, 84, 85, 86, 87, 88, 92, 93, 94, 15, 95, 96, 97, 98, 99, 100, 45, 46, 47, 101, 102, 103, 104, 107, 108, 109, 110, 111, 112, 113, 114, 115, 116, 48, 117, 118, 119, 120, 121, 122, 123, 124, 125, 126, 127, 49, 128, 129, 130, 131, 132, 133, 134, 135, 50, 51, 136, 137, 138, 139, 140, 141, 142, 143, 144, 145, 146, 147, 148, 149, 150, 424, 425, 426, 427, 428, 429, 449, 450, 451, 452, 453, 430, 431, 432, 433, 434, 435, 436, 437, 438, 439, 447, 448, 440, 441, 442, 443, 444, 445, 446] (by decide +kernel) (by decide +kernel)
set_option maxRecDepth 20000 in
theorem gL_law_X4_load : GoodIn wsL_law (wsV RL 96 RX4 yX4_load wsX4_load) := goodIn_app (goodIn_of _ (by decide +kernel)) ggL_law_X4_load
set_option maxRecDepth 20000 in
theorem ggL_law_X4_count : GoodIn wsL_law wsX4_count := goodIn_r _ [234, 12, 235, 236, 237, 238, 16, 239, 240, 241, 242, 11, 243, 30, 143, 144, 145, 146, 39, 147, 148, 149, 150, 244, 245, 246, 15, 247, 45, 48, 248, 249, 2, 250, 251, 252, 253, 254, 51, 255, 256, 257, 258, 35, 105, 106, 259, 260, 261, 262, 263, 424, 425, 426, 427, 428, 429, 430, 431, 432, 433, 434, 435, 436, 437, 438, 439, 440, 441, 442, 443, 444, 445, 446] (by decide +kernel) (by decide +kernel)
set_option maxRecDepth 20000 in
theorem gL_law_X4_count : GoodIn wsL_law (wsV RL 8 RX4 yX4_count wsX4_count) := goodIn_app (goodIn_of _ (by decide +kernel)) ggL_law_X4_count
set_option maxRecDepth 20000 in
theorem ggL_law_X4_bestFeeder : GoodIn wsL_law wsX4_bestFeeder := goodIn_r _ [267, 12, 235, 268, 269, 270, 2, 271, 272, 177, 178, 11, 179, 30, 273, 181, 182, 183, 31, 274, 275, 276, 277, 25, 26, 156, 89, 90, 91, 32, 33, 35, 36, 37, 39, 40, 41, 278, 199, 200, 201, 279, 216, 217, 218, 92, 93, 94, 15, 95, 96, 97, 98, 99, 100, 45, 46, 47, 101, 102, 103, 104, 105, 106, 107, 108, 109, 110, 111, 112, 113, 114, 115, 116, 48, 117, 118, 119, 120, 121, 122, 123, 124, 125, 126, 127, 49, 128, 129, 130, 131, 132, 133, 134, 135, 50, 51, 136, 137, 138, 139, 140, 141, 142, 143, 144, 145, 146, 147, 148, 149, 150, 259, 260, 261, 262, 263, 252, 253, 254, 249, 250, 424, 425, 426, 427, 428, 429, 430, 431, 432, 433, 434, 435, 436, 437, 438, 439, 440, 441, 442, 443, 444, 445, 446] (by decide +kernel) (by decide +kernel)
set_option maxRecDepth 20000 in
theorem gL_law_X4_bestFeeder : GoodIn wsL_law (wsV RL 52 RX4 yX4_bestFeeder wsX4_bestFeeder) := goodIn_app (goodIn_of _ (by decide +kernel)) ggL_law_X4_bestFeeder
set_option maxRecDepth 20000 in
theorem ggL_law_X4_atStep : GoodIn wsL_law wsX4_atStep := goodIn_r _ [283, 12, 235, 16, 284, 285, 105, 2, 106, 424, 425, 426, 427, 428, 429, 430, 431, 432, 433, 434, 435, 436, 437, 438, 439, 440, 441, 442, 443, 444, 445, 446] (by decide +kernel) (by decide +kernel)
set_option maxRecDepth 20000 in
theorem gL_law_X4_atStep : GoodIn wsL_law (wsV RL 20 RX4 yX4_atStep wsX4_atStep) := goodIn_app (goodIn_of _ (by decide +kernel)) ggL_law_X4_atStep
set_option maxRecDepth 20000 in
theorem ggL_law_X4_leastFeeder : GoodIn wsL_law wsX4_leastFeeder := goodIn_r _ [289, 12, 290, 148, 149, 11, 150, 30, 268, 269, 270, 2, 271, 272, 177, 178, 179, 273, 181, 182, 183, 31, 274, 275, 276, 277, 25, 26, 156, 89, 90, 91, 32, 33, 35, 36, 37, 39, 40, 41, 278, 199, 200, 201, 279, 216, 217, 218, 92, 93, 94, 15, 95, 96, 97, 98, 99, 100, 45, 46, 47, 101, 102, 103, 104, 105, 106, 107, 108, 109, 110, 111, 112, 113, 114, 115, 116, 48, 117, 118, 119, 120, 121, 122, 123, 124, 125, 126, 127, 49, 128, 129, 130, 131, 132, 133, 134, 135, 50, 51, 136, 137, 138, 139, 140, 141, 142, 143, 144, 145, 146, 147, 259, 260, 261, 262, 263, 252, 253, 254, 249, 250, 424, 425, 426, 427, 428, 429, 430, 431, 432, 433, 434, 435, 436, 437, 438, 439, 440, 441, 442, 443, 444, 445, 446] (by decide +kernel) (by decide +kernel)
set_option maxRecDepth 20000 in
theorem gL_law_X4_leastFeeder : GoodIn wsL_law (wsV RL 49 RX4 yX4_leastFeeder wsX4_leastFeeder) := goodIn_app (goodIn_of _ (by decide +kernel)) ggL_law_X4_leastFeeder
set_option maxRecDepth 20000 in
theorem ggL_law_L_low : GoodIn wsL_law wsL_low := goodIn_r _ [293, 294] (by decide +kernel) (by decide +kernel)
set_option maxRecDepth 20000 in
theorem gL_law_L_low : GoodIn wsL_law (va_wsS RL 75 yL_low wsL_low) := goodIn_app (goodIn_of _ (by decide +kernel)) ggL_law_L_low
set_option maxRecDepth 20000 in
theorem ggL_law_X4_addSection : GoodIn wsL_law wsX4_addSection := goodIn_r _ [298, 12, 20, 16, 299, 300, 2, 301, 302, 192, 193, 272, 177, 178, 11, 179, 30, 223, 224, 225, 19, 226, 58, 57, 227, 228, 229, 230, 84, 85, 86, 87, 88, 89, 90, 91, 31, 32, 33, 35, 36, 37, 39, 40, 41, 278, 199, 200, 201, 92, 93, 94, 15, 95, 96, 97, 98, 99, 100, 45, 46, 47, 101, 102, 103, 104, 105, 106, 107, 108, 109, 110, 111, 112, 113, 114, 115, 116, 48, 117, 118, 119, 120, 121, 122, 123, 124, 125, 126, 127, 49, 128, 129, 130, 131, 132, 133, 134, 135, 50, 51, 136, 137, 138, 139, 140, 141, 142, 143, 144, 145, 146, 147, 148, 149, 150, 424, 425, 426, 427, 428, 429, 430, 431, 432, 433, 434, 435, 436, 437, 438, 439, 447, 448, 440, 441, 442, 443, 444, 445, 446] (by decide +kernel) (by decide +kernel)
set_option maxRecDepth 20000 in
theorem gL_law_X4_addSection : GoodIn wsL_law (wsV RL 56 RX4 yX4_addSection wsX4_addSection) := goodIn_app (goodIn_of _ (by decide +kernel)) ggL_law_X4_addSection
set_option maxRecDepth 20000 in
theorem ggL_law_X4_join : GoodIn wsL_law wsX4_join := goodIn_r _ [306, 12, 20, 16, 290, 148, 149, 11, 150, 30, 307, 208, 209, 210, 31, 211, 212, 213, 214, 40, 41, 105, 2, 106, 273, 181, 182, 183, 223, 224, 225, 19, 226, 58, 57, 227, 228, 229, 230, 84, 85, 86, 87, 88, 89, 90, 91, 32, 33, 35, 36, 37, 39, 279, 216, 217, 218, 92, 93, 94, 15, 95, 96, 97, 98, 99, 100, 45, 46, 47, 101, 102, 103, 104, 107, 108, 109, 110, 111, 112, 113, 114, 115, 116, 48, 117, 118, 119, 120, 121, 122, 123, 124, 125, 126, 127, 49, 128, 129, 130, 131, 132, 133, 134, 135, 50, 51, 136, 137, 138, 139, 140, 141, 142, 143, 144, 145, 146, 147, 424, 425, 426, 427, 428, 429, 430, 431, 432, 433, 434, 435, 436, 437, 438, 439, 447, 448, 440, 441, 442, 443, 444, 445, 446] (by decide +kernel) (by decide +kernel)
set_option maxRecDepth 20000 in
theorem gL_law_X4_join : GoodIn wsL_law (wsV RL 60 RX4 yX4_join wsX4_join) := goodIn_app (goodIn_of _ (by decide +kernel)) ggL_law_X4_join
set_option maxRecDepth 20000 in
theorem ggL_law_X4_digest : GoodIn wsL_law wsX4_digest := goodIn_r _ [311, 312, 313, 12, 235, 236, 314, 232, 233, 2, 234, 237, 238, 16, 239, 240, 241, 242, 11, 243, 30, 143, 144, 145, 146, 39, 147, 148, 149, 150, 244, 245, 246, 15, 247, 45, 48, 248, 249, 250, 251, 252, 253, 254, 51, 255, 256, 257, 258, 35, 105, 106, 259, 260, 261, 262, 263, 315, 316, 317, 318, 319, 320, 321, 322, 323, 324, 325, 290, 285, 326, 327, 328, 329, 330, 31, 211, 212, 213, 214, 40, 41, 331, 332, 333, 334, 335, 336, 337, 338, 339, 340, 302, 192, 193, 424, 425, 426, 427, 428, 429, 430, 431, 432, 433, 434, 435, 436, 437, 438, 439, 440, 441, 442, 443, 444, 445, 446] (by decide +kernel) (by decide +kernel)
set_option maxRecDepth 20000 in
theorem gL_law_X4_digest : GoodIn wsL_law (wsV RL 45 RX4 yX4_digest wsX4_digest) := goodIn_app (goodIn_of _ (by decide +kernel)) ggL_law_X4_digest
set_option maxRecDepth 100000 in
theorem ggL_law_L_changes : GoodIn wsL_law wsL_changes := goodIn_r _ [343, 291, 292, 69, 293, 294, 295, 296, 297, 2, 298, 12, 20, 16, 299, 300, 301, 302, 192, 193, 272, 177, 178, 11, 179, 30, 223, 224, 225, 19, 226, 58, 57, 227, 228, 229, 230, 84, 85, 86, 87, 88, 89, 90, 91, 31, 32, 33, 35, 36, 37, 39, 40, 41, 278, 199, 200, 201, 92, 93, 94, 15, 95, 96, 97, 98, 99, 100, 45, 46, 47, 101, 102, 103, 104, 105, 106, 107, 108, 109, 110, 111, 112, 113, 114, 115, 116, 48, 117, 118, 119, 120, 121, 122, 123, 124, 125, 126, 127, 49, 128, 129, 130, 131, 132, 133, 134, 135, 50, 51, 136, 137, 138, 139, 140, 141, 142, 143, 144, 145, 146, 147, 148, 149, 150, 344, 345, 346, 347, 319, 320, 290, 285, 348, 349, 350, 351, 352, 321, 353, 354, 355, 356, 235, 357, 358, 359, 360, 361, 211, 212, 213, 214, 362, 363, 364, 365, 366, 367, 368, 369, 370, 371, 372, 236, 337, 338, 339, 340, 373, 374, 375, 376, 377, 237, 238, 303, 304, 305, 306, 307, 208, 209, 210, 273, 181, 182, 183, 279, 216, 217, 218, 424, 425, 426, 427, 428, 429, 430, 431, 432, 433, 434, 435, 436, 437, 438, 439, 447, 448, 440, 441, 442, 443, 444, 445, 446] rfl (by decide +kernel)
set_option maxRecDepth 20000 in
theorem gL_law_L_changes : GoodIn wsL_law (va_wsS RL 99 yL_changes wsL_changes) := goodIn_app (goodIn_of _ (by decide +kernel)) ggL_law_L_changes
