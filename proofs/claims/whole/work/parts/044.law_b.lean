set_option maxRecDepth 20000 in
theorem ggL_law_X7_init : GoodIn wsL_law wsX7_init := goodIn_r _ [9, 10, 11, 12, 13, 14, 15, 16, 17, 18, 19, 20, 21, 22, 23, 24, 25, 26, 27, 28, 29, 30, 31, 32, 33, 34, 35, 36, 37, 38, 39, 40, 41, 42, 43, 44, 45, 46, 47, 48, 49, 50, 51, 52, 53, 54, 55, 56, 57, 58, 59, 60, 61, 62, 63, 64, 65, 66, 67, 68, 69, 70, 71, 72, 73, 74, 75, 76, 77, 78, 79, 80, 81, 82, 83, 84, 85, 86, 87, 88, 89, 90, 91, 92, 93, 94, 95, 96, 97, 98, 99, 100, 101, 102, 103, 104, 105, 106, 107, 108, 109, 110, 111, 112, 113, 114, 115, 116, 117, 118, 119, 120, 805, 806, 765, 766, 767, 768, 769, 770, 771, 772, 773, 774, 775, 776, 807, 808, 809, 810, 811, 812, 813, 814, 815, 816, 817, 818, 819, 820, 821, 822, 823, 824, 825, 826, 827, 828, 829, 830, 831, 832, 833, 834, 835, 836, 837, 838] rfl (by decide +kernel)
set_option maxRecDepth 20000 in
theorem gL_law_X7_init : GoodIn wsL_law (wsX7_init) := ggL_law_X7_init
set_option maxRecDepth 20000 in
theorem ggL_law_X8_init : GoodIn wsL_law wsX8_init := goodIn_r _ [123, 124, 11, 12, 50, 125, 126, 127, 128, 129, 130, 131, 132, 133, 134, 135, 136, 137, 44, 138, 139, 140, 777, 778, 779, 780, 781, 782, 783, 784, 785, 786, 787, 788, 789, 790, 791, 792, 793, 794, 795, 796, 797, 798, 799, 800, 801, 802, 803, 804] rfl (by decide +kernel)
set_option maxRecDepth 20000 in
theorem gL_law_X8_init : GoodIn wsL_law (wsX8_init) := ggL_law_X8_init
set_option maxRecDepth 20000 in
theorem ggL_law_X7_write : GoodIn wsL_law wsX7_write := goodIn_r _ [144, 16, 145, 146, 147, 148, 15, 149, 52, 51, 765, 766, 767, 768, 769, 770, 771, 772, 773, 774, 775, 776, 805, 806] rfl (by decide +kernel)
set_option maxRecDepth 20000 in
theorem gL_law_X7_write : GoodIn wsL_law (wsV RL 15 RX7 yX7_write wsX7_write) := goodIn_app (goodIn_r _ [141, 142, 143, 2] rfl (by decide +kernel)) ggL_law_X7_write
set_option maxRecDepth 20000 in
theorem ggL_law_X8_write : GoodIn wsL_law wsX8_write := goodIn_r _ [153, 154, 155, 133, 156, 157, 158, 5, 159, 777, 778, 779, 780, 781, 782, 783, 784, 785, 786, 787, 788, 789, 790, 791, 792, 793, 794, 795, 796, 797, 798, 799, 800, 801, 802, 803, 804] rfl (by decide +kernel)
set_option maxRecDepth 20000 in
theorem gL_law_X8_write : GoodIn wsL_law (wsV RL 19 RX8 yX8_write wsX8_write) := goodIn_app (goodIn_r _ [150, 151, 152, 5] rfl (by decide +kernel)) ggL_law_X8_write
set_option maxRecDepth 20000 in
theorem ggL_law_X7_wipe : GoodIn wsL_law wsX7_wipe := goodIn_r _ [163, 16, 145, 765, 766, 767, 768, 769, 770, 771, 772, 773, 774, 775, 776, 805, 806] rfl (by decide +kernel)
set_option maxRecDepth 20000 in
theorem gL_law_X7_wipe : GoodIn wsL_law (wsV RL 20 RX7 yX7_wipe wsX7_wipe) := goodIn_app (goodIn_r _ [160, 161, 162, 2] rfl (by decide +kernel)) ggL_law_X7_wipe
set_option maxRecDepth 20000 in
theorem ggL_law_X8_wipe : GoodIn wsL_law wsX8_wipe := goodIn_r _ [167, 155, 777, 778, 779, 780, 781, 782, 783, 784, 785, 786, 787, 788, 789, 790, 791, 792, 793, 794, 795, 796, 797, 798, 799, 800, 801, 802, 803, 804] rfl (by decide +kernel)
set_option maxRecDepth 20000 in
theorem gL_law_X8_wipe : GoodIn wsL_law (wsV RL 24 RX8 yX8_wipe wsX8_wipe) := goodIn_app (goodIn_r _ [164, 165, 166, 5] rfl (by decide +kernel)) ggL_law_X8_wipe
set_option maxRecDepth 20000 in
theorem ggL_law_X7_fault : GoodIn wsL_law wsX7_fault := goodIn_r _ [171, 24, 16, 20, 172, 173, 174, 23, 175, 76, 72, 176, 177, 178, 179, 180, 19, 181, 56, 57, 58, 59, 60, 61, 65, 182, 183, 184, 185, 186, 187, 188, 189, 73, 75, 74, 190, 96, 97, 98, 191, 192, 193, 194, 62, 195, 196, 197, 198, 199, 2, 200, 201, 202, 203, 204, 205, 206, 63, 64, 207, 208, 209, 210, 211, 212, 213, 214, 215, 216, 217, 218, 219, 220, 221, 222, 223, 224, 225, 226, 227, 228, 229, 230, 231, 232, 66, 233, 234, 235, 236, 237, 238, 239, 240, 67, 241, 242, 243, 244, 245, 246, 247, 248, 249, 250, 765, 766, 767, 768, 769, 770, 771, 772, 773, 774, 775, 776, 819, 820, 821, 822, 823, 805, 806, 807, 808, 809, 810, 811, 812, 813, 814, 815, 816, 817, 818] rfl (by decide +kernel)
set_option maxRecDepth 20000 in
theorem gL_law_X7_fault : GoodIn wsL_law (wsV RL 25 RX7 yX7_fault wsX7_fault) := goodIn_app (goodIn_r _ [168, 169, 170, 2] rfl (by decide +kernel)) ggL_law_X7_fault
set_option maxRecDepth 20000 in
theorem ggL_law_X8_fault : GoodIn wsL_law wsX8_fault := goodIn_r _ [254, 255, 256, 257, 5, 258, 259, 260, 261, 262, 263, 155, 133, 264, 265, 266, 267, 125, 126, 268, 269, 270, 271, 272, 273, 274, 275, 276, 277, 278, 279, 280, 157, 158, 159, 281, 282, 283, 284, 285, 286, 287, 288, 289, 290, 291, 292, 293, 294, 295, 296, 777, 778, 779, 780, 781, 782, 783, 784, 785, 786, 787, 788, 789, 790, 791, 792, 793, 794, 795, 796, 797, 798, 799, 800, 801, 802, 803, 804] rfl (by decide +kernel)
set_option maxRecDepth 20000 in
theorem gL_law_X8_fault : GoodIn wsL_law (wsV RL 28 RX8 yX8_fault wsX8_fault) := goodIn_app (goodIn_r _ [251, 252, 253, 5] rfl (by decide +kernel)) ggL_law_X8_fault
set_option maxRecDepth 20000 in
theorem ggL_law_X7_wood : GoodIn wsL_law wsX7_wood := goodIn_r _ [300, 24, 16, 20, 25, 29, 34, 45, 301, 302, 172, 173, 174, 23, 175, 76, 72, 176, 177, 178, 179, 180, 19, 181, 56, 57, 58, 59, 60, 61, 65, 182, 183, 184, 185, 186, 187, 188, 189, 73, 75, 74, 190, 96, 97, 98, 191, 192, 193, 194, 62, 195, 196, 197, 198, 199, 2, 200, 201, 202, 203, 204, 205, 206, 63, 64, 207, 208, 209, 210, 211, 212, 213, 214, 215, 216, 217, 218, 219, 220, 221, 222, 223, 224, 225, 226, 227, 228, 229, 230, 231, 232, 66, 233, 234, 235, 236, 237, 238, 239, 240, 67, 241, 242, 243, 244, 245, 246, 247, 248, 249, 250, 88, 89, 90, 28, 91, 87, 81, 82, 83, 84, 92, 93, 85, 94, 86, 95, 303, 304, 305, 33, 306, 106, 765, 766, 767, 768, 769, 770, 771, 772, 773, 774, 775, 776, 807, 808, 809, 810, 811, 812, 813, 814, 815, 816, 817, 818, 819, 820, 821, 822, 823, 805, 806, 824, 825, 826, 827, 828, 829, 830, 831, 832, 833] rfl (by decide +kernel)
set_option maxRecDepth 20000 in
theorem gL_law_X7_wood : GoodIn wsL_law (wsV RL 29 RX7 yX7_wood wsX7_wood) := goodIn_app (goodIn_r _ [297, 298, 299, 2] rfl (by decide +kernel)) ggL_law_X7_wood
set_option maxRecDepth 20000 in
theorem ggL_law_X8_wood : GoodIn wsL_law wsX8_wood := goodIn_r _ [310, 261, 140, 262, 311, 263, 312, 313, 132, 127, 125, 128, 129, 130, 126, 131, 314, 138, 255, 256, 257, 5, 258, 259, 260, 155, 133, 264, 265, 266, 267, 268, 269, 270, 271, 272, 273, 274, 275, 276, 277, 278, 279, 280, 157, 158, 159, 281, 282, 283, 284, 285, 286, 287, 288, 289, 290, 291, 292, 293, 294, 295, 296, 777, 778, 779, 780, 781, 782, 783, 784, 785, 786, 787, 788, 789, 790, 791, 792, 793, 794, 795, 796, 797, 798, 799, 800, 801, 802, 803, 804] rfl (by decide +kernel)
set_option maxRecDepth 20000 in
theorem gL_law_X8_wood : GoodIn wsL_law (wsV RL 32 RX8 yX8_wood wsX8_wood) := goodIn_app (goodIn_r _ [307, 308, 309, 5] rfl (by decide +kernel)) ggL_law_X8_wood
set_option maxRecDepth 20000 in
theorem ggL_law_X7_trap : GoodIn wsL_law wsX7_trap := goodIn_r _ [318, 25, 319, 320, 321, 322, 29, 323, 324, 325, 326, 217, 218, 19, 219, 56, 765, 766, 767, 768, 769, 770, 771, 772, 773, 774, 775, 776, 807, 808, 809, 810, 811, 812, 813, 814, 815, 816, 817, 818, 824, 825, 826, 827, 828, 829, 830] rfl (by decide +kernel)
set_option maxRecDepth 20000 in
theorem gL_law_X7_trap : GoodIn wsL_law (wsV RL 33 RX7 yX7_trap wsX7_trap) := goodIn_app (goodIn_r _ [315, 316, 317, 2] rfl (by decide +kernel)) ggL_law_X7_trap
set_option maxRecDepth 20000 in
theorem ggL_law_X8_trap : GoodIn wsL_law wsX8_trap := goodIn_r _ [330, 127, 128, 129, 130, 132, 331, 332, 333, 5, 334, 140, 157, 158, 159, 777, 778, 779, 780, 781, 782, 783, 784, 785, 786, 787, 788, 789, 790, 791, 792, 793, 794, 795, 796, 797, 798, 799, 800, 801, 802, 803, 804] rfl (by decide +kernel)
set_option maxRecDepth 20000 in
theorem gL_law_X8_trap : GoodIn wsL_law (wsV RL 37 RX8 yX8_trap wsX8_trap) := goodIn_app (goodIn_r _ [327, 328, 329, 5] rfl (by decide +kernel)) ggL_law_X8_trap
set_option maxRecDepth 20000 in
theorem ggL_law_X7_walker : GoodIn wsL_law wsX7_walker := goodIn_r _ [338, 25, 29, 339, 340, 341, 342, 343, 344, 19, 345, 57, 346, 347, 348, 28, 349, 87, 86, 350, 765, 766, 767, 768, 769, 770, 771, 772, 773, 774, 775, 776, 824, 825, 826, 827, 828, 829, 830, 807, 808, 809, 810, 811, 812, 813, 814, 815, 816, 817, 818] rfl (by decide +kernel)
set_option maxRecDepth 20000 in
theorem gL_law_X7_walker : GoodIn wsL_law (wsV RL 38 RX7 yX7_walker wsX7_walker) := goodIn_app (goodIn_r _ [335, 336, 337, 2] rfl (by decide +kernel)) ggL_law_X7_walker
set_option maxRecDepth 20000 in
theorem ggL_law_X8_walker : GoodIn wsL_law wsX8_walker := goodIn_r _ [354, 132, 131, 355, 356, 357, 5, 358, 311, 157, 158, 159, 777, 778, 779, 780, 781, 782, 783, 784, 785, 786, 787, 788, 789, 790, 791, 792, 793, 794, 795, 796, 797, 798, 799, 800, 801, 802, 803, 804] rfl (by decide +kernel)
set_option maxRecDepth 20000 in
theorem gL_law_X8_walker : GoodIn wsL_law (wsV RL 41 RX8 yX8_walker wsX8_walker) := goodIn_app (goodIn_r _ [351, 352, 353, 5] rfl (by decide +kernel)) ggL_law_X8_walker
set_option maxRecDepth 20000 in
theorem ggL_law_X7_near : GoodIn wsL_law wsX7_near := goodIn_r _ [362, 25, 363, 199, 2, 200, 364, 365, 366, 19, 367, 58, 368, 369, 370, 765, 766, 767, 768, 769, 770, 771, 772, 773, 774, 775, 776, 807, 808, 809, 810, 811, 812, 813, 814, 815, 816, 817, 818] rfl (by decide +kernel)
set_option maxRecDepth 20000 in
theorem gL_law_X7_near : GoodIn wsL_law (wsV RL 42 RX7 yX7_near wsX7_near) := goodIn_app (goodIn_r _ [359, 360, 361, 2] rfl (by decide +kernel)) ggL_law_X7_near
set_option maxRecDepth 20000 in
theorem ggL_law_X8_near : GoodIn wsL_law wsX8_near := goodIn_r _ [374, 375, 376, 5, 377, 378, 157, 158, 159, 379, 380, 381, 382, 312, 383, 384, 385, 777, 778, 779, 780, 781, 782, 783, 784, 785, 786, 787, 788, 789, 790, 791, 792, 793, 794, 795, 796, 797, 798, 799, 800, 801, 802, 803, 804] rfl (by decide +kernel)
set_option maxRecDepth 20000 in
theorem gL_law_X8_near : GoodIn wsL_law (wsV RL 46 RX8 yX8_near wsX8_near) := goodIn_app (goodIn_r _ [371, 372, 373, 5] rfl (by decide +kernel)) ggL_law_X8_near
set_option maxRecDepth 20000 in
theorem ggL_law_X7_frost : GoodIn wsL_law wsX7_frost := goodIn_r _ [389, 29, 390, 765, 766, 767, 768, 769, 770, 771, 772, 773, 774, 775, 776, 824, 825, 826, 827, 828, 829, 830] rfl (by decide +kernel)
set_option maxRecDepth 20000 in
theorem gL_law_X7_frost : GoodIn wsL_law (wsV RL 47 RX7 yX7_frost wsX7_frost) := goodIn_app (goodIn_r _ [386, 387, 388, 2] rfl (by decide +kernel)) ggL_law_X7_frost
set_option maxRecDepth 20000 in
theorem ggL_law_X8_frost : GoodIn wsL_law wsX8_frost := goodIn_r _ [394, 313, 777, 778, 779, 780, 781, 782, 783, 784, 785, 786, 787, 788, 789, 790, 791, 792, 793, 794, 795, 796, 797, 798, 799, 800, 801, 802, 803, 804] rfl (by decide +kernel)
set_option maxRecDepth 20000 in
theorem gL_law_X8_frost : GoodIn wsL_law (wsV RL 51 RX8 yX8_frost wsX8_frost) := goodIn_app (goodIn_r _ [391, 392, 393, 5] rfl (by decide +kernel)) ggL_law_X8_frost
set_option maxRecDepth 20000 in
theorem ggL_law_X7_step : GoodIn wsL_law wsX7_step := goodIn_r _ [398, 25, 29, 339, 34, 342, 343, 344, 19, 345, 57, 363, 199, 2, 200, 346, 347, 348, 28, 349, 87, 86, 350, 364, 365, 366, 367, 58, 368, 369, 370, 399, 400, 401, 33, 402, 104, 105, 106, 403, 404, 405, 406, 81, 82, 83, 84, 85, 407, 408, 409, 410, 411, 412, 413, 414, 56, 62, 415, 217, 218, 219, 416, 417, 418, 419, 420, 421, 422, 423, 424, 64, 425, 426, 427, 428, 429, 65, 430, 431, 432, 433, 434, 435, 436, 437, 438, 439, 67, 61, 60, 440, 765, 766, 767, 768, 769, 770, 771, 772, 773, 774, 775, 776, 824, 825, 826, 827, 828, 829, 830, 807, 808, 809, 810, 811, 812, 813, 814, 815, 816, 817, 818, 831, 832, 833] rfl (by decide +kernel)
set_option maxRecDepth 20000 in
theorem gL_law_X7_step : GoodIn wsL_law (wsV RL 52 RX7 yX7_step wsX7_step) := goodIn_app (goodIn_r _ [395, 396, 397, 2] rfl (by decide +kernel)) ggL_law_X7_step
set_option maxRecDepth 20000 in
theorem ggL_law_X8_step : GoodIn wsL_law wsX8_step := goodIn_r _ [444, 132, 140, 355, 356, 357, 5, 358, 311, 157, 158, 159, 375, 376, 377, 378, 379, 380, 381, 382, 312, 383, 384, 385, 445, 446, 447, 448, 134, 449, 314, 450, 451, 452, 453, 313, 129, 454, 455, 456, 457, 127, 458, 459, 460, 461, 462, 463, 464, 465, 130, 466, 467, 468, 469, 131, 777, 778, 779, 780, 781, 782, 783, 784, 785, 786, 787, 788, 789, 790, 791, 792, 793, 794, 795, 796, 797, 798, 799, 800, 801, 802, 803, 804] rfl (by decide +kernel)
set_option maxRecDepth 20000 in
theorem gL_law_X8_step : GoodIn wsL_law (wsV RL 55 RX8 yX8_step wsX8_step) := goodIn_app (goodIn_r _ [441, 442, 443, 5] rfl (by decide +kernel)) ggL_law_X8_step
set_option maxRecDepth 20000 in
theorem ggL_law_X7_arm : GoodIn wsL_law wsX7_arm := goodIn_r _ [473, 25, 29, 323, 34, 324, 320, 326, 217, 218, 19, 219, 56, 399, 400, 401, 33, 402, 104, 105, 106, 403, 404, 405, 28, 406, 81, 82, 83, 84, 85, 86, 765, 766, 767, 768, 769, 770, 771, 772, 773, 774, 775, 776, 824, 825, 826, 827, 828, 829, 830, 807, 808, 809, 810, 811, 812, 813, 814, 815, 816, 817, 818, 831, 832, 833] rfl (by decide +kernel)
set_option maxRecDepth 20000 in
theorem gL_law_X7_arm : GoodIn wsL_law (wsV RL 56 RX7 yX7_arm wsX7_arm) := goodIn_app (goodIn_r _ [470, 471, 472, 2] rfl (by decide +kernel)) ggL_law_X7_arm
set_option maxRecDepth 20000 in
theorem ggL_law_X8_arm : GoodIn wsL_law wsX8_arm := goodIn_r _ [477, 132, 128, 331, 332, 333, 5, 334, 140, 157, 158, 159, 445, 446, 447, 448, 134, 449, 314, 777, 778, 779, 780, 781, 782, 783, 784, 785, 786, 787, 788, 789, 790, 791, 792, 793, 794, 795, 796, 797, 798, 799, 800, 801, 802, 803, 804] rfl (by decide +kernel)
set_option maxRecDepth 20000 in
theorem gL_law_X8_arm : GoodIn wsL_law (wsV RL 59 RX8 yX8_arm wsX8_arm) := goodIn_app (goodIn_r _ [474, 475, 476, 5] rfl (by decide +kernel)) ggL_law_X8_arm
set_option maxRecDepth 20000 in
theorem ggL_law_X7_look : GoodIn wsL_law wsX7_look := goodIn_r _ [481, 34, 29, 325, 363, 199, 2, 200, 482, 201, 202, 483, 484, 485, 486, 25, 487, 368, 369, 370, 488, 489, 490, 19, 491, 56, 62, 399, 400, 401, 33, 402, 104, 105, 106, 403, 404, 405, 28, 406, 81, 82, 83, 84, 85, 86, 765, 766, 767, 768, 769, 770, 771, 772, 773, 774, 775, 776, 824, 825, 826, 827, 828, 829, 830, 807, 808, 809, 810, 811, 812, 813, 814, 815, 816, 817, 818, 831, 832, 833] rfl (by decide +kernel)
set_option maxRecDepth 20000 in
theorem gL_law_X7_look : GoodIn wsL_law (wsV RL 60 RX7 yX7_look wsX7_look) := goodIn_app (goodIn_r _ [478, 479, 480, 2] rfl (by decide +kernel)) ggL_law_X7_look
set_option maxRecDepth 20000 in
theorem ggL_law_X8_look : GoodIn wsL_law wsX8_look := goodIn_r _ [495, 132, 375, 376, 5, 377, 378, 157, 158, 159, 445, 446, 447, 448, 134, 449, 314, 496, 497, 498, 499, 140, 127, 383, 384, 385, 777, 778, 779, 780, 781, 782, 783, 784, 785, 786, 787, 788, 789, 790, 791, 792, 793, 794, 795, 796, 797, 798, 799, 800, 801, 802, 803, 804] rfl (by decide +kernel)
set_option maxRecDepth 20000 in
theorem gL_law_X8_look : GoodIn wsL_law (wsV RL 63 RX8 yX8_look wsX8_look) := goodIn_app (goodIn_r _ [492, 493, 494, 5] rfl (by decide +kernel)) ggL_law_X8_look
set_option maxRecDepth 20000 in
theorem ggL_law_X7_free : GoodIn wsL_law wsX7_free := goodIn_r _ [503, 25, 29, 34, 341, 342, 343, 344, 19, 345, 57, 346, 347, 348, 28, 349, 87, 86, 350, 399, 400, 401, 33, 402, 104, 105, 106, 403, 404, 405, 406, 81, 82, 83, 84, 85, 765, 766, 767, 768, 769, 770, 771, 772, 773, 774, 775, 776, 824, 825, 826, 827, 828, 829, 830, 807, 808, 809, 810, 811, 812, 813, 814, 815, 816, 817, 818, 831, 832, 833] rfl (by decide +kernel)
set_option maxRecDepth 20000 in
theorem gL_law_X7_free : GoodIn wsL_law (wsV RL 64 RX7 yX7_free wsX7_free) := goodIn_app (goodIn_r _ [500, 501, 502, 2] rfl (by decide +kernel)) ggL_law_X7_free
set_option maxRecDepth 20000 in
theorem ggL_law_X8_free : GoodIn wsL_law wsX8_free := goodIn_r _ [507, 132, 355, 356, 357, 5, 358, 311, 157, 158, 159, 445, 446, 447, 448, 134, 449, 314, 777, 778, 779, 780, 781, 782, 783, 784, 785, 786, 787, 788, 789, 790, 791, 792, 793, 794, 795, 796, 797, 798, 799, 800, 801, 802, 803, 804] rfl (by decide +kernel)
set_option maxRecDepth 20000 in
theorem gL_law_X8_free : GoodIn wsL_law (wsV RL 67 RX8 yX8_free wsX8_free) := goodIn_app (goodIn_r _ [504, 505, 506, 5] rfl (by decide +kernel)) ggL_law_X8_free
set_option maxRecDepth 20000 in
theorem ggL_law_X7_undo : GoodIn wsL_law wsX7_undo := goodIn_r _ [511, 34, 512, 29, 390, 513, 514, 515, 33, 516, 106, 104, 105, 403, 404, 405, 28, 406, 81, 82, 83, 84, 85, 86, 765, 766, 767, 768, 769, 770, 771, 772, 773, 774, 775, 776, 831, 832, 833, 824, 825, 826, 827, 828, 829, 830] rfl (by decide +kernel)
set_option maxRecDepth 20000 in
theorem gL_law_X7_undo : GoodIn wsL_law (wsV RL 68 RX7 yX7_undo wsX7_undo) := goodIn_app (goodIn_r _ [508, 509, 510, 2] rfl (by decide +kernel)) ggL_law_X7_undo
set_option maxRecDepth 20000 in
theorem ggL_law_X8_undo : GoodIn wsL_law wsX8_undo := goodIn_r _ [520, 314, 449, 132, 134, 777, 778, 779, 780, 781, 782, 783, 784, 785, 786, 787, 788, 789, 790, 791, 792, 793, 794, 795, 796, 797, 798, 799, 800, 801, 802, 803, 804] rfl (by decide +kernel)
set_option maxRecDepth 20000 in
theorem gL_law_X8_undo : GoodIn wsL_law (wsV RL 71 RX8 yX8_undo wsX8_undo) := goodIn_app (goodIn_r _ [517, 518, 519, 5] rfl (by decide +kernel)) ggL_law_X8_undo
set_option maxRecDepth 20000 in
theorem ggL_law_X7_sprung : GoodIn wsL_law wsX7_sprung := goodIn_r _ [524, 25, 29, 326, 217, 218, 19, 219, 56, 525, 417, 418, 28, 419, 83, 81, 87, 420, 526, 427, 428, 429, 65, 765, 766, 767, 768, 769, 770, 771, 772, 773, 774, 775, 776, 807, 808, 809, 810, 811, 812, 813, 814, 815, 816, 817, 818, 824, 825, 826, 827, 828, 829, 830] rfl (by decide +kernel)
set_option maxRecDepth 20000 in
theorem gL_law_X7_sprung : GoodIn wsL_law (wsV RL 72 RX7 yX7_sprung wsX7_sprung) := goodIn_app (goodIn_r _ [521, 522, 523, 2] rfl (by decide +kernel)) ggL_law_X7_sprung
set_option maxRecDepth 20000 in
theorem ggL_law_X8_sprung : GoodIn wsL_law wsX8_sprung := goodIn_r _ [530, 313, 132, 331, 332, 333, 5, 334, 140, 157, 158, 159, 462, 463, 464, 465, 129, 130, 777, 778, 779, 780, 781, 782, 783, 784, 785, 786, 787, 788, 789, 790, 791, 792, 793, 794, 795, 796, 797, 798, 799, 800, 801, 802, 803, 804] rfl (by decide +kernel)
set_option maxRecDepth 20000 in
theorem gL_law_X8_sprung : GoodIn wsL_law (wsV RL 75 RX8 yX8_sprung wsX8_sprung) := goodIn_app (goodIn_r _ [527, 528, 529, 5] rfl (by decide +kernel)) ggL_law_X8_sprung
set_option maxRecDepth 20000 in
theorem ggL_law_X7_rings : GoodIn wsL_law wsX7_rings := goodIn_r _ [534, 25, 322, 535, 96, 97, 19, 98, 56, 526, 427, 428, 429, 65, 765, 766, 767, 768, 769, 770, 771, 772, 773, 774, 775, 776, 807, 808, 809, 810, 811, 812, 813, 814, 815, 816, 817, 818] rfl (by decide +kernel)
set_option maxRecDepth 20000 in
theorem gL_law_X7_rings : GoodIn wsL_law (wsV RL 76 RX7 yX7_rings wsX7_rings) := goodIn_app (goodIn_r _ [531, 532, 533, 2] rfl (by decide +kernel)) ggL_law_X7_rings
set_option maxRecDepth 20000 in
theorem ggL_law_X8_rings : GoodIn wsL_law wsX8_rings := goodIn_r _ [539, 140, 130, 777, 778, 779, 780, 781, 782, 783, 784, 785, 786, 787, 788, 789, 790, 791, 792, 793, 794, 795, 796, 797, 798, 799, 800, 801, 802, 803, 804] rfl (by decide +kernel)
set_option maxRecDepth 20000 in
theorem gL_law_X8_rings : GoodIn wsL_law (wsV RL 79 RX8 yX8_rings wsX8_rings) := goodIn_app (goodIn_r _ [536, 537, 538, 5] rfl (by decide +kernel)) ggL_law_X8_rings
set_option maxRecDepth 20000 in
theorem ggL_law_X7_all : GoodIn wsL_law wsX7_all := goodIn_r _ [543, 29, 25, 525, 417, 418, 28, 419, 83, 81, 87, 420, 535, 96, 97, 19, 98, 56, 544, 545, 546, 547, 548, 549, 550, 526, 427, 428, 429, 65, 765, 766, 767, 768, 769, 770, 771, 772, 773, 774, 775, 776, 824, 825, 826, 827, 828, 829, 830, 807, 808, 809, 810, 811, 812, 813, 814, 815, 816, 817, 818] rfl (by decide +kernel)
set_option maxRecDepth 20000 in
theorem gL_law_X7_all : GoodIn wsL_law (wsV RL 80 RX7 yX7_all wsX7_all) := goodIn_app (goodIn_r _ [540, 541, 542, 2] rfl (by decide +kernel)) ggL_law_X7_all
set_option maxRecDepth 20000 in
theorem ggL_law_X8_all : GoodIn wsL_law wsX8_all := goodIn_r _ [554, 140, 555, 556, 557, 5, 558, 313, 132, 462, 463, 464, 465, 129, 130, 559, 560, 561, 777, 778, 779, 780, 781, 782, 783, 784, 785, 786, 787, 788, 789, 790, 791, 792, 793, 794, 795, 796, 797, 798, 799, 800, 801, 802, 803, 804] rfl (by decide +kernel)
set_option maxRecDepth 20000 in
theorem gL_law_X8_all : GoodIn wsL_law (wsV RL 83 RX8 yX8_all wsX8_all) := goodIn_app (goodIn_r _ [551, 552, 553, 5] rfl (by decide +kernel)) ggL_law_X8_all
set_option maxRecDepth 20000 in
theorem ggL_law_X7_first : GoodIn wsL_law wsX7_first := goodIn_r _ [565, 25, 566, 535, 96, 97, 19, 98, 56, 326, 217, 218, 219, 526, 427, 428, 429, 65, 765, 766, 767, 768, 769, 770, 771, 772, 773, 774, 775, 776, 807, 808, 809, 810, 811, 812, 813, 814, 815, 816, 817, 818] rfl (by decide +kernel)
set_option maxRecDepth 20000 in
theorem gL_law_X7_first : GoodIn wsL_law (wsV RL 84 RX7 yX7_first wsX7_first) := goodIn_app (goodIn_r _ [562, 563, 564, 2] rfl (by decide +kernel)) ggL_law_X7_first
set_option maxRecDepth 20000 in
theorem ggL_law_X8_first : GoodIn wsL_law wsX8_first := goodIn_r _ [570, 140, 157, 158, 5, 159, 462, 463, 464, 465, 129, 130, 777, 778, 779, 780, 781, 782, 783, 784, 785, 786, 787, 788, 789, 790, 791, 792, 793, 794, 795, 796, 797, 798, 799, 800, 801, 802, 803, 804] rfl (by decide +kernel)
set_option maxRecDepth 20000 in
theorem gL_law_X8_first : GoodIn wsL_law (wsV RL 87 RX8 yX8_first wsX8_first) := goodIn_app (goodIn_r _ [567, 568, 569, 5] rfl (by decide +kernel)) ggL_law_X8_first
set_option maxRecDepth 20000 in
theorem ggL_law_X7_safe : GoodIn wsL_law wsX7_safe := goodIn_r _ [574, 38, 29, 339, 575, 576, 577, 2, 578, 25, 342, 343, 344, 19, 345, 57, 363, 199, 200, 346, 347, 348, 28, 349, 87, 86, 350, 579, 580, 581, 582, 340, 325, 323, 566, 482, 201, 202, 583, 192, 193, 194, 56, 62, 584, 585, 586, 37, 587, 112, 113, 588, 368, 369, 370, 589, 590, 591, 592, 765, 766, 767, 768, 769, 770, 771, 772, 773, 774, 775, 776, 824, 825, 826, 827, 828, 829, 830, 807, 808, 809, 810, 811, 812, 813, 814, 815, 816, 817, 818, 834, 835] rfl (by decide +kernel)
set_option maxRecDepth 20000 in
theorem gL_law_X7_safe : GoodIn wsL_law (wsV RL 88 RX7 yX7_safe wsX7_safe) := goodIn_app (goodIn_r _ [571, 572, 573, 2] rfl (by decide +kernel)) ggL_law_X7_safe
set_option maxRecDepth 20000 in
theorem ggL_law_X8_safe : GoodIn wsL_law wsX8_safe := goodIn_r _ [596, 132, 135, 355, 356, 357, 5, 358, 311, 157, 158, 159, 375, 376, 377, 378, 597, 598, 599, 600, 312, 140, 131, 129, 127, 383, 384, 385, 777, 778, 779, 780, 781, 782, 783, 784, 785, 786, 787, 788, 789, 790, 791, 792, 793, 794, 795, 796, 797, 798, 799, 800, 801, 802, 803, 804] rfl (by decide +kernel)
set_option maxRecDepth 20000 in
theorem gL_law_X8_safe : GoodIn wsL_law (wsV RL 91 RX8 yX8_safe wsX8_safe) := goodIn_app (goodIn_r _ [593, 594, 595, 5] rfl (by decide +kernel)) ggL_law_X8_safe
set_option maxRecDepth 20000 in
theorem ggL_law_X7_safeAt : GoodIn wsL_law wsX7_safeAt := goodIn_r _ [604, 38, 29, 339, 575, 576, 577, 2, 578, 25, 342, 343, 344, 19, 345, 57, 363, 199, 200, 346, 347, 348, 28, 349, 87, 86, 350, 579, 580, 581, 582, 340, 325, 323, 566, 482, 201, 202, 583, 192, 193, 194, 56, 62, 584, 585, 586, 37, 587, 112, 113, 588, 368, 369, 370, 605, 606, 607, 608, 609, 590, 591, 592, 610, 611, 612, 613, 765, 766, 767, 768, 769, 770, 771, 772, 773, 774, 775, 776, 824, 825, 826, 827, 828, 829, 830, 807, 808, 809, 810, 811, 812, 813, 814, 815, 816, 817, 818, 834, 835] rfl (by decide +kernel)
set_option maxRecDepth 20000 in
theorem gL_law_X7_safeAt : GoodIn wsL_law (wsV RL 92 RX7 yX7_safeAt wsX7_safeAt) := goodIn_app (goodIn_r _ [601, 602, 603, 2] rfl (by decide +kernel)) ggL_law_X7_safeAt
set_option maxRecDepth 20000 in
theorem ggL_law_X8_safeAt : GoodIn wsL_law wsX8_safeAt := goodIn_r _ [617, 132, 135, 618, 594, 595, 5, 596, 355, 356, 357, 358, 311, 157, 158, 159, 375, 376, 377, 378, 597, 598, 599, 600, 312, 140, 131, 129, 127, 383, 384, 385, 379, 380, 381, 382, 619, 620, 621, 622, 454, 455, 456, 457, 777, 778, 779, 780, 781, 782, 783, 784, 785, 786, 787, 788, 789, 790, 791, 792, 793, 794, 795, 796, 797, 798, 799, 800, 801, 802, 803, 804] rfl (by decide +kernel)
set_option maxRecDepth 20000 in
theorem gL_law_X8_safeAt : GoodIn wsL_law (wsV RL 96 RX8 yX8_safeAt wsX8_safeAt) := goodIn_app (goodIn_r _ [614, 615, 616, 5] rfl (by decide +kernel)) ggL_law_X8_safeAt
set_option maxRecDepth 20000 in
theorem ggL_law_X7_toLook : GoodIn wsL_law wsX7_toLook := goodIn_r _ [626, 482, 201, 2, 202, 483, 484, 485, 486, 25, 29, 325, 363, 199, 200, 487, 368, 369, 370, 488, 489, 490, 19, 491, 56, 62, 544, 545, 546, 547, 548, 549, 550, 765, 766, 767, 768, 769, 770, 771, 772, 773, 774, 775, 776, 824, 825, 826, 827, 828, 829, 830, 807, 808, 809, 810, 811, 812, 813, 814, 815, 816, 817, 818] rfl (by decide +kernel)
set_option maxRecDepth 20000 in
theorem gL_law_X7_toLook : GoodIn wsL_law (wsV RL 97 RX7 yX7_toLook wsX7_toLook) := goodIn_app (goodIn_r _ [623, 624, 625, 2] rfl (by decide +kernel)) ggL_law_X7_toLook
set_option maxRecDepth 20000 in
theorem ggL_law_X8_toLook : GoodIn wsL_law wsX8_toLook := goodIn_r _ [630, 157, 158, 5, 159, 496, 497, 498, 499, 140, 127, 132, 383, 384, 385, 559, 560, 561, 777, 778, 779, 780, 781, 782, 783, 784, 785, 786, 787, 788, 789, 790, 791, 792, 793, 794, 795, 796, 797, 798, 799, 800, 801, 802, 803, 804] rfl (by decide +kernel)
set_option maxRecDepth 20000 in
theorem gL_law_X8_toLook : GoodIn wsL_law (wsV RL 100 RX8 yX8_toLook wsX8_toLook) := goodIn_app (goodIn_r _ [627, 628, 629, 5] rfl (by decide +kernel)) ggL_law_X8_toLook
set_option maxRecDepth 20000 in
theorem ggL_law_X7_strays : GoodIn wsL_law wsX7_strays := goodIn_r _ [634, 25, 29, 42, 342, 343, 344, 19, 345, 57, 346, 347, 348, 28, 349, 87, 86, 350, 635, 636, 41, 637, 638, 639, 640, 641, 642, 120, 118, 119, 643, 644, 645, 646, 647, 648, 649, 650, 651, 652, 365, 366, 367, 58, 368, 2, 369, 370, 363, 199, 200, 653, 545, 546, 547, 548, 549, 550, 654, 655, 656, 657, 658, 659, 412, 413, 414, 56, 62, 660, 217, 218, 219, 661, 422, 423, 424, 64, 425, 662, 437, 438, 439, 67, 61, 60, 440, 663, 427, 428, 429, 65, 664, 665, 666, 765, 766, 767, 768, 769, 770, 771, 772, 773, 774, 775, 776, 807, 808, 809, 810, 811, 812, 813, 814, 815, 816, 817, 818, 824, 825, 826, 827, 828, 829, 830, 836, 837, 838] rfl (by decide +kernel)
set_option maxRecDepth 20000 in
theorem gL_law_X7_strays : GoodIn wsL_law (wsV RL 101 RX7 yX7_strays wsX7_strays) := goodIn_app (goodIn_r _ [631, 632, 633, 2] rfl (by decide +kernel)) ggL_law_X7_strays
set_option maxRecDepth 20000 in
theorem ggL_law_X8_strays : GoodIn wsL_law wsX8_strays := goodIn_r _ [670, 671, 132, 140, 355, 356, 357, 5, 358, 311, 157, 158, 159, 672, 673, 674, 675, 136, 137, 379, 380, 381, 382, 312, 383, 384, 385, 676, 677, 678, 559, 560, 561, 679, 680, 681, 450, 451, 452, 453, 313, 129, 454, 455, 456, 457, 127, 458, 459, 460, 461, 462, 463, 464, 465, 130, 466, 467, 468, 469, 131, 682, 683, 684, 777, 778, 779, 780, 781, 782, 783, 784, 785, 786, 787, 788, 789, 790, 791, 792, 793, 794, 795, 796, 797, 798, 799, 800, 801, 802, 803, 804] rfl (by decide +kernel)
set_option maxRecDepth 20000 in
theorem gL_law_X8_strays : GoodIn wsL_law (wsV RL 105 RX8 yX8_strays wsX8_strays) := goodIn_app (goodIn_r _ [667, 668, 669, 5] rfl (by decide +kernel)) ggL_law_X8_strays
set_option maxRecDepth 20000 in
theorem ggL_law_X7_oneMore : GoodIn wsL_law wsX7_oneMore := goodIn_r _ [688, 25, 29, 301, 689, 42, 342, 343, 344, 19, 345, 57, 346, 347, 348, 28, 349, 87, 86, 350, 690, 412, 413, 414, 56, 62, 638, 639, 640, 41, 641, 642, 120, 118, 119, 643, 644, 645, 646, 647, 636, 637, 648, 649, 650, 651, 652, 365, 366, 367, 58, 368, 2, 369, 370, 363, 199, 200, 653, 545, 546, 547, 548, 549, 550, 654, 655, 656, 657, 658, 659, 660, 217, 218, 219, 661, 422, 423, 424, 64, 425, 662, 437, 438, 439, 67, 61, 60, 440, 663, 427, 428, 429, 65, 765, 766, 767, 768, 769, 770, 771, 772, 773, 774, 775, 776, 807, 808, 809, 810, 811, 812, 813, 814, 815, 816, 817, 818, 824, 825, 826, 827, 828, 829, 830, 836, 837, 838] rfl (by decide +kernel)
set_option maxRecDepth 20000 in
theorem gL_law_X7_oneMore : GoodIn wsL_law (wsV RL 106 RX7 yX7_oneMore wsX7_oneMore) := goodIn_app (goodIn_r _ [685, 686, 687, 2] rfl (by decide +kernel)) ggL_law_X7_oneMore
set_option maxRecDepth 20000 in
theorem ggL_law_X8_oneMore : GoodIn wsL_law wsX8_oneMore := goodIn_r _ [694, 695, 132, 140, 129, 130, 312, 127, 355, 356, 357, 5, 358, 311, 157, 158, 159, 454, 455, 456, 457, 672, 673, 674, 675, 136, 137, 379, 380, 381, 382, 383, 384, 385, 676, 677, 678, 559, 560, 561, 679, 680, 681, 450, 451, 452, 453, 313, 458, 459, 460, 461, 462, 463, 464, 465, 466, 467, 468, 469, 131, 777, 778, 779, 780, 781, 782, 783, 784, 785, 786, 787, 788, 789, 790, 791, 792, 793, 794, 795, 796, 797, 798, 799, 800, 801, 802, 803, 804] rfl (by decide +kernel)
set_option maxRecDepth 20000 in
theorem gL_law_X8_oneMore : GoodIn wsL_law (wsV RL 109 RX8 yX8_oneMore wsX8_oneMore) := goodIn_app (goodIn_r _ [691, 692, 693, 5] rfl (by decide +kernel)) ggL_law_X8_oneMore
set_option maxRecDepth 20000 in
theorem ggL_law_X7_seed : GoodIn wsL_law wsX7_seed := goodIn_r _ [699, 46, 765, 766, 767, 768, 769, 770, 771, 772, 773, 774, 775, 776] rfl (by decide +kernel)
set_option maxRecDepth 20000 in
theorem gL_law_X7_seed : GoodIn wsL_law (wsV RL 110 RX7 yX7_seed wsX7_seed) := goodIn_app (goodIn_r _ [696, 697, 698, 2] rfl (by decide +kernel)) ggL_law_X7_seed
set_option maxRecDepth 20000 in
theorem ggL_law_X8_seed : GoodIn wsL_law wsX8_seed := goodIn_r _ [703, 704, 777, 778, 779, 780, 781, 782, 783, 784, 785, 786, 787, 788, 789, 790, 791, 792, 793, 794, 795, 796, 797, 798, 799, 800, 801, 802, 803, 804] rfl (by decide +kernel)
set_option maxRecDepth 20000 in
theorem gL_law_X8_seed : GoodIn wsL_law (wsV RL 114 RX8 yX8_seed wsX8_seed) := goodIn_app (goodIn_r _ [700, 701, 702, 5] rfl (by decide +kernel)) ggL_law_X8_seed
set_option maxRecDepth 20000 in
theorem ggL_law_X7_night : GoodIn wsL_law wsX7_night := goodIn_r _ [708, 30, 29, 25, 709, 404, 405, 28, 406, 81, 82, 83, 84, 85, 86, 342, 343, 344, 19, 345, 57, 346, 347, 348, 349, 87, 350, 710, 711, 712, 2, 713, 339, 46, 714, 715, 364, 365, 366, 367, 58, 368, 369, 370, 363, 199, 200, 544, 545, 546, 547, 548, 549, 550, 716, 717, 718, 407, 408, 409, 410, 411, 412, 413, 414, 56, 62, 415, 217, 218, 219, 416, 417, 418, 419, 420, 421, 422, 423, 424, 64, 425, 426, 427, 428, 429, 65, 430, 431, 432, 433, 434, 435, 436, 437, 438, 439, 67, 61, 60, 440, 719, 720, 721, 722, 765, 766, 767, 768, 769, 770, 771, 772, 773, 774, 775, 776, 824, 825, 826, 827, 828, 829, 830, 807, 808, 809, 810, 811, 812, 813, 814, 815, 816, 817, 818] rfl (by decide +kernel)
set_option maxRecDepth 20000 in
theorem gL_law_X7_night : GoodIn wsL_law (wsV RL 115 RX7 yX7_night wsX7_night) := goodIn_app (goodIn_r _ [705, 706, 707, 2] rfl (by decide +kernel)) ggL_law_X7_night
set_option maxRecDepth 20000 in
theorem ggL_law_X8_night : GoodIn wsL_law wsX8_night := goodIn_r _ [726, 727, 132, 311, 704, 728, 729, 140, 157, 158, 5, 159, 379, 380, 381, 382, 312, 383, 384, 385, 559, 560, 561, 679, 680, 681, 450, 451, 452, 453, 313, 129, 454, 455, 456, 457, 127, 458, 459, 460, 461, 462, 463, 464, 465, 130, 466, 467, 468, 469, 131, 777, 778, 779, 780, 781, 782, 783, 784, 785, 786, 787, 788, 789, 790, 791, 792, 793, 794, 795, 796, 797, 798, 799, 800, 801, 802, 803, 804] rfl (by decide +kernel)
set_option maxRecDepth 20000 in
theorem gL_law_X8_night : GoodIn wsL_law (wsV RL 118 RX8 yX8_night wsX8_night) := goodIn_app (goodIn_r _ [723, 724, 725, 5] rfl (by decide +kernel)) ggL_law_X8_night
set_option maxRecDepth 20000 in
theorem ggL_law_X7_keep : GoodIn wsL_law wsX7_keep := goodIn_r _ [733, 43, 29, 45, 734, 735, 2, 736, 709, 404, 405, 28, 406, 81, 82, 83, 84, 85, 86, 737, 738, 739, 740, 25, 302, 719, 720, 721, 722, 87, 434, 544, 545, 546, 547, 548, 549, 550, 765, 766, 767, 768, 769, 770, 771, 772, 773, 774, 775, 776, 824, 825, 826, 827, 828, 829, 830, 807, 808, 809, 810, 811, 812, 813, 814, 815, 816, 817, 818] rfl (by decide +kernel)
set_option maxRecDepth 20000 in
theorem gL_law_X7_keep : GoodIn wsL_law (wsV RL 119 RX7 yX7_keep wsX7_keep) := goodIn_app (goodIn_r _ [730, 731, 732, 2] rfl (by decide +kernel)) ggL_law_X7_keep
set_option maxRecDepth 20000 in
theorem ggL_law_X8_keep : GoodIn wsL_law wsX8_keep := goodIn_r _ [744, 138, 139, 132, 313, 157, 158, 5, 159, 745, 746, 747, 748, 311, 777, 778, 779, 780, 781, 782, 783, 784, 785, 786, 787, 788, 789, 790, 791, 792, 793, 794, 795, 796, 797, 798, 799, 800, 801, 802, 803, 804] rfl (by decide +kernel)
set_option maxRecDepth 20000 in
theorem gL_law_X8_keep : GoodIn wsL_law (wsV RL 122 RX8 yX8_keep wsX8_keep) := goodIn_app (goodIn_r _ [741, 742, 743, 5] rfl (by decide +kernel)) ggL_law_X8_keep
set_option maxRecDepth 20000 in
theorem ggL_law_X7_again : GoodIn wsL_law wsX7_again := goodIn_r _ [752, 45, 29, 43, 34, 734, 735, 2, 736, 709, 404, 405, 28, 406, 81, 82, 83, 84, 85, 86, 303, 304, 305, 33, 306, 106, 737, 738, 739, 740, 25, 302, 719, 720, 721, 722, 87, 434, 544, 545, 546, 547, 548, 549, 550, 765, 766, 767, 768, 769, 770, 771, 772, 773, 774, 775, 776, 824, 825, 826, 827, 828, 829, 830, 831, 832, 833, 807, 808, 809, 810, 811, 812, 813, 814, 815, 816, 817, 818] rfl (by decide +kernel)
set_option maxRecDepth 20000 in
theorem gL_law_X7_again : GoodIn wsL_law (wsV RL 123 RX7 yX7_again wsX7_again) := goodIn_app (goodIn_r _ [749, 750, 751, 2] rfl (by decide +kernel)) ggL_law_X7_again
set_option maxRecDepth 20000 in
theorem ggL_law_X8_again : GoodIn wsL_law wsX8_again := goodIn_r _ [756, 138, 132, 139, 313, 314, 157, 158, 5, 159, 745, 746, 747, 748, 311, 777, 778, 779, 780, 781, 782, 783, 784, 785, 786, 787, 788, 789, 790, 791, 792, 793, 794, 795, 796, 797, 798, 799, 800, 801, 802, 803, 804] rfl (by decide +kernel)
set_option maxRecDepth 20000 in
theorem gL_law_X8_again : GoodIn wsL_law (wsV RL 126 RX8 yX8_again wsX8_again) := goodIn_app (goodIn_r _ [753, 754, 755, 5] rfl (by decide +kernel)) ggL_law_X8_again
set_option maxRecDepth 20000 in
theorem ggL_law_X7_count : GoodIn wsL_law wsX7_count := goodIn_r _ [760, 16, 145, 25, 301, 302, 29, 323, 325, 689, 34, 512, 390, 719, 720, 721, 28, 722, 87, 434, 86, 765, 766, 767, 768, 769, 770, 771, 772, 773, 774, 775, 776, 805, 806, 807, 808, 809, 810, 811, 812, 813, 814, 815, 816, 817, 818, 824, 825, 826, 827, 828, 829, 830, 831, 832, 833] rfl (by decide +kernel)
set_option maxRecDepth 20000 in
theorem gL_law_X7_count : GoodIn wsL_law (wsV RL 127 RX7 yX7_count wsX7_count) := goodIn_app (goodIn_r _ [757, 758, 759, 2] rfl (by decide +kernel)) ggL_law_X7_count
set_option maxRecDepth 20000 in
theorem ggL_law_X8_count : GoodIn wsL_law wsX8_count := goodIn_r _ [764, 311, 132, 155, 140, 312, 314, 313, 777, 778, 779, 780, 781, 782, 783, 784, 785, 786, 787, 788, 789, 790, 791, 792, 793, 794, 795, 796, 797, 798, 799, 800, 801, 802, 803, 804] rfl (by decide +kernel)
set_option maxRecDepth 20000 in
theorem gL_law_X8_count : GoodIn wsL_law (wsV RL 130 RX8 yX8_count wsX8_count) := goodIn_app (goodIn_r _ [761, 762, 763, 5] rfl (by decide +kernel)) ggL_law_X8_count
