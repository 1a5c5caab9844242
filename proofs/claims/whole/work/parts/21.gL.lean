set_option maxRecDepth 20000 in
theorem ggL_law_X6_init : GoodIn wsL_law wsX6_init := goodIn_r _ [8, 9, 10, 11, 12, 13, 14, 15, 16, 17, 18, 19, 20, 21, 22, 23, 24, 25, 26, 27, 28, 29, 30, 31, 32, 33, 34, 35, 36, 37, 38, 39, 40, 41, 42, 43, 44, 45, 46, 47, 48, 49, 50, 51, 52, 53, 54, 55, 56, 57, 58, 59, 60, 61, 62, 63, 64, 65, 66, 67, 68, 69, 70, 71, 72, 73, 74, 75, 76, 77, 78, 79, 80, 81, 82, 83, 84, 85, 86, 804, 805, 764, 765, 766, 767, 768, 769, 770, 771, 772, 806, 807, 808, 809, 810, 811, 812, 813, 814, 815, 816, 817, 818, 819, 820, 821, 822, 823, 824, 825, 826, 827, 828, 829, 830, 831] (by decide +kernel) (by decide +kernel)
set_option maxRecDepth 20000 in
theorem gL_law_X6_init : GoodIn wsL_law (wsX6_init) := ggL_law_X6_init
set_option maxRecDepth 20000 in
theorem ggL_law_X7_init : GoodIn wsL_law wsX7_init := goodIn_r _ [89, 90, 10, 11, 42, 91, 92, 93, 94, 95, 96, 97, 98, 99, 100, 101, 102, 103, 104, 105, 773, 774, 775, 776, 777, 778, 779, 780, 781, 782, 783, 784, 785, 786, 787, 788, 789, 790, 791, 792, 793, 794, 795, 796, 797, 798, 799, 800, 801, 802, 803] (by decide +kernel) (by decide +kernel)
set_option maxRecDepth 20000 in
theorem gL_law_X7_init : GoodIn wsL_law (wsX7_init) := ggL_law_X7_init
set_option maxRecDepth 20000 in
theorem ggL_law_X6_letter : GoodIn wsL_law wsX6_letter := goodIn_r _ [109, 15, 110, 111, 112, 113, 14, 114, 44, 43, 764, 765, 766, 767, 768, 769, 770, 771, 772, 804, 805] (by decide +kernel) (by decide +kernel)
set_option maxRecDepth 20000 in
theorem gL_law_X6_letter : GoodIn wsL_law (wsV RL 13 RX6 yX6_letter wsX6_letter) := goodIn_app (goodIn_of _ (by decide +kernel)) ggL_law_X6_letter
set_option maxRecDepth 20000 in
theorem ggL_law_X7_letter : GoodIn wsL_law wsX7_letter := goodIn_r _ [118, 119, 120, 91, 121, 122, 5, 123, 773, 774, 775, 776, 777, 778, 779, 780, 781, 782, 783, 784, 785, 786, 787, 788, 789, 790, 791, 792, 793, 794, 795, 796, 797, 798, 799, 800, 801, 802, 803] (by decide +kernel) (by decide +kernel)
set_option maxRecDepth 20000 in
theorem gL_law_X7_letter : GoodIn wsL_law (wsV RL 17 RX7 yX7_letter wsX7_letter) := goodIn_app (goodIn_of _ (by decide +kernel)) ggL_law_X7_letter
set_option maxRecDepth 20000 in
theorem ggL_law_X6_blank : GoodIn wsL_law wsX6_blank := goodIn_r _ [127, 15, 110, 764, 765, 766, 767, 768, 769, 770, 771, 772, 804, 805] (by decide +kernel) (by decide +kernel)
set_option maxRecDepth 20000 in
theorem gL_law_X6_blank : GoodIn wsL_law (wsV RL 18 RX6 yX6_blank wsX6_blank) := goodIn_app (goodIn_of _ (by decide +kernel)) ggL_law_X6_blank
set_option maxRecDepth 20000 in
theorem ggL_law_X7_blank : GoodIn wsL_law wsX7_blank := goodIn_r _ [131, 120, 773, 774, 775, 776, 777, 778, 779, 780, 781, 782, 783, 784, 785, 786, 787, 788, 789, 790, 791, 792, 793, 794, 795, 796, 797, 798, 799, 800, 801, 802, 803] (by decide +kernel) (by decide +kernel)
set_option maxRecDepth 20000 in
theorem gL_law_X7_blank : GoodIn wsL_law (wsV RL 22 RX7 yX7_blank wsX7_blank) := goodIn_app (goodIn_of _ (by decide +kernel)) ggL_law_X7_blank
set_option maxRecDepth 20000 in
theorem ggL_law_X6_fault : GoodIn wsL_law wsX6_fault := goodIn_r _ [135, 19, 15, 136, 137, 138, 18, 139, 49, 50, 140, 141, 142, 143, 144, 22, 145, 56, 59, 146, 147, 148, 149, 51, 52, 150, 151, 152, 153, 154, 155, 156, 157, 158, 159, 2, 160, 161, 162, 163, 164, 165, 166, 167, 168, 169, 170, 171, 172, 173, 174, 175, 176, 177, 178, 179, 180, 181, 182, 183, 184, 185, 186, 187, 188, 189, 190, 191, 192, 193, 194, 195, 196, 197, 198, 199, 200, 201, 202, 203, 204, 205, 206, 207, 208, 209, 210, 211, 212, 213, 214, 215, 216, 217, 218, 219, 220, 221, 222, 223, 224, 225, 226, 227, 228, 229, 230, 231, 232, 233, 234, 235, 236, 237, 238, 239, 240, 241, 242, 243, 244, 245, 246, 247, 248, 249, 250, 251, 252, 253, 254, 255, 256, 257, 258, 259, 260, 261, 262, 263, 264, 265, 266, 267, 268, 764, 765, 766, 767, 768, 769, 770, 771, 772, 806, 807, 808, 809, 804, 805, 810, 811, 812, 813] (by decide +kernel) (by decide +kernel)
set_option maxRecDepth 20000 in
theorem gL_law_X6_fault : GoodIn wsL_law (wsV RL 23 RX6 yX6_fault wsX6_fault) := goodIn_app (goodIn_of _ (by decide +kernel)) ggL_law_X6_fault
set_option maxRecDepth 20000 in
theorem ggL_law_X7_fault : GoodIn wsL_law wsX7_fault := goodIn_r _ [272, 273, 274, 275, 5, 276, 277, 278, 279, 280, 281, 120, 91, 282, 283, 284, 285, 286, 92, 121, 122, 123, 287, 288, 289, 290, 93, 291, 292, 293, 294, 295, 773, 774, 775, 776, 777, 778, 779, 780, 781, 782, 783, 784, 785, 786, 787, 788, 789, 790, 791, 792, 793, 794, 795, 796, 797, 798, 799, 800, 801, 802, 803] (by decide +kernel) (by decide +kernel)
set_option maxRecDepth 20000 in
theorem gL_law_X7_fault : GoodIn wsL_law (wsV RL 26 RX7 yX7_fault wsX7_fault) := goodIn_app (goodIn_of _ (by decide +kernel)) ggL_law_X7_fault
set_option maxRecDepth 20000 in
theorem ggL_law_X6_room : GoodIn wsL_law wsX6_room := goodIn_r _ [299, 19, 15, 110, 23, 300, 27, 301, 37, 38, 302, 136, 137, 138, 18, 139, 49, 50, 140, 141, 142, 143, 144, 22, 145, 56, 59, 146, 147, 148, 149, 51, 52, 150, 151, 152, 153, 154, 155, 156, 157, 158, 159, 2, 160, 161, 162, 163, 164, 165, 166, 167, 168, 169, 170, 171, 172, 173, 174, 175, 176, 177, 178, 179, 180, 181, 182, 183, 184, 185, 186, 187, 188, 189, 190, 191, 192, 193, 194, 195, 196, 197, 198, 199, 200, 201, 202, 203, 204, 205, 206, 207, 208, 209, 210, 211, 212, 213, 214, 215, 216, 217, 218, 219, 220, 221, 222, 223, 224, 225, 226, 227, 228, 229, 230, 231, 232, 233, 234, 235, 236, 237, 238, 239, 240, 241, 242, 243, 244, 245, 246, 247, 248, 249, 250, 251, 252, 253, 254, 255, 256, 257, 258, 259, 260, 261, 262, 263, 264, 265, 266, 267, 268, 303, 304, 305, 306, 307, 308, 309, 310, 311, 312, 313, 314, 57, 58, 315, 316, 317, 26, 318, 63, 319, 68, 72, 73, 764, 765, 766, 767, 768, 769, 770, 771, 772, 804, 805, 806, 807, 808, 809, 810, 811, 812, 813, 814, 815, 816, 817, 818, 819, 820, 821, 822, 823, 824] (by decide +kernel) (by decide +kernel)
set_option maxRecDepth 20000 in
theorem gL_law_X6_room : GoodIn wsL_law (wsV RL 27 RX6 yX6_room wsX6_room) := goodIn_app (goodIn_of _ (by decide +kernel)) ggL_law_X6_room
set_option maxRecDepth 20000 in
theorem ggL_law_X7_room : GoodIn wsL_law wsX7_room := goodIn_r _ [323, 120, 281, 280, 324, 92, 94, 95, 93, 325, 326, 327, 328, 273, 274, 275, 5, 276, 277, 278, 279, 91, 282, 283, 284, 285, 286, 121, 122, 123, 287, 288, 289, 290, 291, 292, 293, 294, 295, 329, 330, 331, 773, 774, 775, 776, 777, 778, 779, 780, 781, 782, 783, 784, 785, 786, 787, 788, 789, 790, 791, 792, 793, 794, 795, 796, 797, 798, 799, 800, 801, 802, 803] (by decide +kernel) (by decide +kernel)
set_option maxRecDepth 20000 in
theorem gL_law_X7_room : GoodIn wsL_law (wsV RL 30 RX7 yX7_room wsX7_room) := goodIn_app (goodIn_of _ (by decide +kernel)) ggL_law_X7_room
set_option maxRecDepth 20000 in
theorem ggL_law_X6_fits : GoodIn wsL_law wsX6_fits := goodIn_r _ [335, 23, 302, 336, 337, 338, 2, 339, 764, 765, 766, 767, 768, 769, 770, 771, 772, 810, 811, 812, 813] (by decide +kernel) (by decide +kernel)
set_option maxRecDepth 20000 in
theorem gL_law_X6_fits : GoodIn wsL_law (wsV RL 31 RX6 yX6_fits wsX6_fits) := goodIn_app (goodIn_of _ (by decide +kernel)) ggL_law_X6_fits
set_option maxRecDepth 20000 in
theorem ggL_law_X7_fits : GoodIn wsL_law wsX7_fits := goodIn_r _ [343, 94, 344, 345, 346, 5, 347, 348, 349, 350, 351, 352, 324, 121, 122, 123, 773, 774, 775, 776, 777, 778, 779, 780, 781, 782, 783, 784, 785, 786, 787, 788, 789, 790, 791, 792, 793, 794, 795, 796, 797, 798, 799, 800, 801, 802, 803] (by decide +kernel) (by decide +kernel)
set_option maxRecDepth 20000 in
theorem gL_law_X7_fits : GoodIn wsL_law (wsV RL 34 RX7 yX7_fits wsX7_fits) := goodIn_app (goodIn_of _ (by decide +kernel)) ggL_law_X7_fits
set_option maxRecDepth 20000 in
theorem ggL_law_X6_about : GoodIn wsL_law wsX6_about := goodIn_r _ [356, 23, 357, 27, 358, 359, 360, 361, 2, 362, 302, 363, 364, 365, 26, 366, 68, 66, 67, 367, 368, 369, 370, 64, 371, 372, 373, 374, 375, 376, 377, 378, 379, 380, 381, 382, 383, 384, 385, 386, 387, 388, 389, 390, 391, 392, 393, 394, 336, 395, 396, 397, 398, 399, 400, 401, 402, 403, 404, 405, 406, 407, 408, 409, 410, 411, 412, 413, 414, 415, 416, 417, 418, 419, 420, 421, 422, 423, 424, 425, 426, 427, 194, 195, 196, 764, 765, 766, 767, 768, 769, 770, 771, 772, 810, 811, 812, 813, 814, 815, 816, 817, 818, 819, 820, 821, 822, 823, 824] (by decide +kernel) (by decide +kernel)
set_option maxRecDepth 20000 in
theorem gL_law_X6_about : GoodIn wsL_law (wsV RL 35 RX6 yX6_about wsX6_about) := goodIn_app (goodIn_of _ (by decide +kernel)) ggL_law_X6_about
set_option maxRecDepth 20000 in
theorem ggL_law_X7_about : GoodIn wsL_law wsX7_about := goodIn_r _ [431, 432, 433, 434, 5, 435, 324, 121, 122, 123, 436, 437, 438, 439, 95, 440, 441, 442, 443, 326, 96, 444, 445, 446, 447, 448, 449, 450, 451, 452, 453, 454, 455, 456, 457, 458, 459, 94, 460, 461, 462, 463, 464, 465, 466, 467, 468, 469, 327, 99, 470, 471, 472, 473, 100, 773, 774, 775, 776, 777, 778, 779, 780, 781, 782, 783, 784, 785, 786, 787, 788, 789, 790, 791, 792, 793, 794, 795, 796, 797, 798, 799, 800, 801, 802, 803] (by decide +kernel) (by decide +kernel)
set_option maxRecDepth 20000 in
theorem gL_law_X7_about : GoodIn wsL_law (wsV RL 39 RX7 yX7_about wsX7_about) := goodIn_app (goodIn_of _ (by decide +kernel)) ggL_law_X7_about
set_option maxRecDepth 20000 in
theorem ggL_law_X6_as : GoodIn wsL_law wsX6_as := goodIn_r _ [477, 23, 357, 359, 360, 361, 2, 362, 302, 478, 479, 480, 764, 765, 766, 767, 768, 769, 770, 771, 772, 810, 811, 812, 813] (by decide +kernel) (by decide +kernel)
set_option maxRecDepth 20000 in
theorem gL_law_X6_as : GoodIn wsL_law (wsV RL 40 RX6 yX6_as wsX6_as) := goodIn_app (goodIn_of _ (by decide +kernel)) ggL_law_X6_as
set_option maxRecDepth 20000 in
theorem ggL_law_X7_as : GoodIn wsL_law wsX7_as := goodIn_r _ [484, 485, 95, 432, 433, 434, 5, 435, 324, 121, 122, 123, 773, 774, 775, 776, 777, 778, 779, 780, 781, 782, 783, 784, 785, 786, 787, 788, 789, 790, 791, 792, 793, 794, 795, 796, 797, 798, 799, 800, 801, 802, 803] (by decide +kernel) (by decide +kernel)
set_option maxRecDepth 20000 in
theorem gL_law_X7_as : GoodIn wsL_law (wsV RL 43 RX7 yX7_as wsX7_as) := goodIn_app (goodIn_of _ (by decide +kernel)) ggL_law_X7_as
set_option maxRecDepth 20000 in
theorem ggL_law_X6_want : GoodIn wsL_law wsX6_want := goodIn_r _ [489, 27, 358, 490, 359, 360, 361, 2, 362, 23, 302, 491, 159, 160, 764, 765, 766, 767, 768, 769, 770, 771, 772, 814, 815, 816, 817, 818, 819, 820, 821, 822, 823, 824, 810, 811, 812, 813] (by decide +kernel) (by decide +kernel)
set_option maxRecDepth 20000 in
theorem gL_law_X6_want : GoodIn wsL_law (wsV RL 44 RX6 yX6_want wsX6_want) := goodIn_app (goodIn_of _ (by decide +kernel)) ggL_law_X6_want
set_option maxRecDepth 20000 in
theorem ggL_law_X7_want : GoodIn wsL_law wsX7_want := goodIn_r _ [495, 286, 95, 325, 432, 433, 434, 5, 435, 324, 121, 122, 123, 773, 774, 775, 776, 777, 778, 779, 780, 781, 782, 783, 784, 785, 786, 787, 788, 789, 790, 791, 792, 793, 794, 795, 796, 797, 798, 799, 800, 801, 802, 803] (by decide +kernel) (by decide +kernel)
set_option maxRecDepth 20000 in
theorem gL_law_X7_want : GoodIn wsL_law (wsV RL 47 RX7 yX7_want wsX7_want) := goodIn_app (goodIn_of _ (by decide +kernel)) ggL_law_X7_want
set_option maxRecDepth 20000 in
theorem ggL_law_X6_would : GoodIn wsL_law wsX6_would := goodIn_r _ [499, 359, 360, 361, 2, 362, 23, 302, 337, 338, 339, 391, 392, 393, 394, 357, 336, 27, 358, 363, 364, 365, 26, 366, 68, 66, 67, 395, 396, 397, 398, 399, 400, 401, 402, 403, 404, 405, 406, 764, 765, 766, 767, 768, 769, 770, 771, 772, 810, 811, 812, 813, 814, 815, 816, 817, 818, 819, 820, 821, 822, 823, 824] (by decide +kernel) (by decide +kernel)
set_option maxRecDepth 20000 in
theorem gL_law_X6_would : GoodIn wsL_law (wsV RL 48 RX6 yX6_would wsX6_would) := goodIn_app (goodIn_of _ (by decide +kernel)) ggL_law_X6_would
set_option maxRecDepth 20000 in
theorem ggL_law_X7_would : GoodIn wsL_law wsX7_would := goodIn_r _ [503, 432, 433, 434, 5, 435, 324, 121, 122, 123, 344, 345, 346, 347, 348, 349, 350, 351, 352, 452, 453, 454, 455, 95, 456, 457, 458, 459, 94, 460, 461, 462, 463, 464, 465, 773, 774, 775, 776, 777, 778, 779, 780, 781, 782, 783, 784, 785, 786, 787, 788, 789, 790, 791, 792, 793, 794, 795, 796, 797, 798, 799, 800, 801, 802, 803] (by decide +kernel) (by decide +kernel)
set_option maxRecDepth 20000 in
theorem gL_law_X7_would : GoodIn wsL_law (wsV RL 51 RX7 yX7_would wsX7_would) := goodIn_app (goodIn_of _ (by decide +kernel)) ggL_law_X7_would
set_option maxRecDepth 20000 in
theorem ggL_law_X6_begin : GoodIn wsL_law wsX6_begin := goodIn_r _ [507, 27, 508, 359, 360, 361, 2, 362, 23, 302, 337, 338, 339, 367, 368, 369, 26, 370, 68, 64, 371, 372, 373, 374, 66, 509, 510, 511, 512, 65, 67, 764, 765, 766, 767, 768, 769, 770, 771, 772, 814, 815, 816, 817, 818, 819, 820, 821, 822, 823, 824, 810, 811, 812, 813] (by decide +kernel) (by decide +kernel)
set_option maxRecDepth 20000 in
theorem gL_law_X6_begin : GoodIn wsL_law (wsV RL 52 RX6 yX6_begin wsX6_begin) := goodIn_app (goodIn_of _ (by decide +kernel)) ggL_law_X6_begin
set_option maxRecDepth 20000 in
theorem ggL_law_X7_begin : GoodIn wsL_law wsX7_begin := goodIn_r _ [516, 326, 96, 432, 433, 434, 5, 435, 324, 121, 122, 123, 344, 345, 346, 347, 348, 349, 350, 351, 352, 440, 441, 442, 443, 773, 774, 775, 776, 777, 778, 779, 780, 781, 782, 783, 784, 785, 786, 787, 788, 789, 790, 791, 792, 793, 794, 795, 796, 797, 798, 799, 800, 801, 802, 803] (by decide +kernel) (by decide +kernel)
set_option maxRecDepth 20000 in
theorem gL_law_X7_begin : GoodIn wsL_law (wsV RL 55 RX7 yX7_begin wsX7_begin) := goodIn_app (goodIn_of _ (by decide +kernel)) ggL_law_X7_begin
set_option maxRecDepth 20000 in
theorem ggL_law_X6_end : GoodIn wsL_law wsX6_end := goodIn_r _ [520, 27, 521, 522, 523, 524, 525, 526, 527, 2, 528, 508, 359, 360, 361, 362, 23, 302, 529, 372, 373, 26, 374, 66, 391, 392, 393, 394, 357, 336, 358, 363, 364, 365, 366, 68, 67, 395, 396, 397, 398, 399, 400, 401, 402, 403, 404, 405, 406, 764, 765, 766, 767, 768, 769, 770, 771, 772, 814, 815, 816, 817, 818, 819, 820, 821, 822, 823, 824, 810, 811, 812, 813] (by decide +kernel) (by decide +kernel)
set_option maxRecDepth 20000 in
theorem gL_law_X6_end : GoodIn wsL_law (wsV RL 56 RX6 yX6_end wsX6_end) := goodIn_app (goodIn_of _ (by decide +kernel)) ggL_law_X6_end
set_option maxRecDepth 20000 in
theorem ggL_law_X7_end : GoodIn wsL_law wsX7_end := goodIn_r _ [533, 96, 95, 534, 535, 536, 5, 537, 326, 121, 122, 123, 432, 433, 434, 435, 324, 452, 453, 454, 455, 456, 457, 458, 459, 94, 460, 461, 462, 463, 464, 465, 773, 774, 775, 776, 777, 778, 779, 780, 781, 782, 783, 784, 785, 786, 787, 788, 789, 790, 791, 792, 793, 794, 795, 796, 797, 798, 799, 800, 801, 802, 803] (by decide +kernel) (by decide +kernel)
set_option maxRecDepth 20000 in
theorem gL_law_X7_end : GoodIn wsL_law (wsV RL 59 RX7 yX7_end wsX7_end) := goodIn_app (goodIn_of _ (by decide +kernel)) ggL_law_X7_end
set_option maxRecDepth 20000 in
theorem ggL_law_X6_sentence : GoodIn wsL_law wsX6_sentence := goodIn_r _ [541, 27, 521, 522, 523, 524, 525, 526, 527, 2, 528, 508, 542, 543, 544, 26, 545, 67, 63, 64, 371, 372, 373, 374, 66, 764, 765, 766, 767, 768, 769, 770, 771, 772, 814, 815, 816, 817, 818, 819, 820, 821, 822, 823, 824] (by decide +kernel) (by decide +kernel)
set_option maxRecDepth 20000 in
theorem gL_law_X6_sentence : GoodIn wsL_law (wsV RL 60 RX6 yX6_sentence wsX6_sentence) := goodIn_app (goodIn_of _ (by decide +kernel)) ggL_law_X6_sentence
set_option maxRecDepth 20000 in
theorem ggL_law_X7_sentence : GoodIn wsL_law wsX7_sentence := goodIn_r _ [549, 534, 535, 536, 5, 537, 326, 121, 122, 123, 550, 551, 552, 553, 348, 96, 554, 555, 556, 557, 95, 773, 774, 775, 776, 777, 778, 779, 780, 781, 782, 783, 784, 785, 786, 787, 788, 789, 790, 791, 792, 793, 794, 795, 796, 797, 798, 799, 800, 801, 802, 803] (by decide +kernel) (by decide +kernel)
set_option maxRecDepth 20000 in
theorem gL_law_X7_sentence : GoodIn wsL_law (wsV RL 63 RX7 yX7_sentence wsX7_sentence) := goodIn_app (goodIn_of _ (by decide +kernel)) ggL_law_X7_sentence
set_option maxRecDepth 20000 in
theorem ggL_law_X6_match : GoodIn wsL_law wsX6_match := goodIn_r _ [561, 23, 302, 32, 562, 563, 564, 565, 566, 2, 567, 568, 27, 508, 359, 360, 361, 362, 569, 570, 571, 572, 521, 522, 358, 529, 372, 373, 26, 374, 66, 391, 392, 393, 394, 357, 336, 363, 364, 365, 366, 68, 67, 395, 396, 397, 398, 399, 400, 401, 402, 403, 404, 405, 406, 573, 574, 575, 31, 576, 77, 79, 78, 577, 578, 579, 580, 194, 195, 196, 581, 582, 583, 584, 764, 765, 766, 767, 768, 769, 770, 771, 772, 810, 811, 812, 813, 825, 826, 827, 814, 815, 816, 817, 818, 819, 820, 821, 822, 823, 824] (by decide +kernel) (by decide +kernel)
set_option maxRecDepth 20000 in
theorem gL_law_X6_match : GoodIn wsL_law (wsV RL 64 RX6 yX6_match wsX6_match) := goodIn_app (goodIn_of _ (by decide +kernel)) ggL_law_X6_match
set_option maxRecDepth 20000 in
theorem ggL_law_X7_match : GoodIn wsL_law wsX7_match := goodIn_r _ [588, 589, 590, 121, 122, 5, 123, 349, 350, 351, 352, 324, 591, 592, 593, 594, 326, 97, 98, 595, 596, 597, 598, 599, 600, 601, 602, 96, 95, 452, 453, 454, 455, 456, 457, 458, 459, 94, 460, 461, 462, 463, 464, 465, 329, 330, 331, 773, 774, 775, 776, 777, 778, 779, 780, 781, 782, 783, 784, 785, 786, 787, 788, 789, 790, 791, 792, 793, 794, 795, 796, 797, 798, 799, 800, 801, 802, 803] (by decide +kernel) (by decide +kernel)
set_option maxRecDepth 20000 in
theorem gL_law_X7_match : GoodIn wsL_law (wsV RL 67 RX7 yX7_match wsX7_match) := goodIn_app (goodIn_of _ (by decide +kernel)) ggL_law_X7_match
set_option maxRecDepth 20000 in
theorem ggL_law_X6_hear : GoodIn wsL_law wsX6_hear := goodIn_r _ [606, 27, 415, 359, 360, 361, 2, 362, 23, 302, 337, 338, 339, 491, 159, 160, 607, 608, 609, 26, 610, 72, 69, 70, 71, 764, 765, 766, 767, 768, 769, 770, 771, 772, 814, 815, 816, 817, 818, 819, 820, 821, 822, 823, 824, 810, 811, 812, 813] (by decide +kernel) (by decide +kernel)
set_option maxRecDepth 20000 in
theorem gL_law_X6_hear : GoodIn wsL_law (wsV RL 68 RX6 yX6_hear wsX6_hear) := goodIn_app (goodIn_of _ (by decide +kernel)) ggL_law_X6_hear
set_option maxRecDepth 20000 in
theorem ggL_law_X7_hear : GoodIn wsL_law wsX7_hear := goodIn_r _ [614, 615, 286, 327, 99, 432, 433, 434, 5, 435, 324, 121, 122, 123, 344, 345, 346, 347, 348, 349, 350, 351, 352, 773, 774, 775, 776, 777, 778, 779, 780, 781, 782, 783, 784, 785, 786, 787, 788, 789, 790, 791, 792, 793, 794, 795, 796, 797, 798, 799, 800, 801, 802, 803] (by decide +kernel) (by decide +kernel)
set_option maxRecDepth 20000 in
theorem gL_law_X7_hear : GoodIn wsL_law (wsV RL 72 RX7 yX7_hear wsX7_hear) := goodIn_app (goodIn_of _ (by decide +kernel)) ggL_law_X7_hear
set_option maxRecDepth 20000 in
theorem ggL_law_X6_forget : GoodIn wsL_law wsX6_forget := goodIn_r _ [619, 27, 415, 764, 765, 766, 767, 768, 769, 770, 771, 772, 814, 815, 816, 817, 818, 819, 820, 821, 822, 823, 824] (by decide +kernel) (by decide +kernel)
set_option maxRecDepth 20000 in
theorem gL_law_X6_forget : GoodIn wsL_law (wsV RL 73 RX6 yX6_forget wsX6_forget) := goodIn_app (goodIn_of _ (by decide +kernel)) ggL_law_X6_forget
set_option maxRecDepth 20000 in
theorem ggL_law_X7_forget : GoodIn wsL_law wsX7_forget := goodIn_r _ [623, 327, 773, 774, 775, 776, 777, 778, 779, 780, 781, 782, 783, 784, 785, 786, 787, 788, 789, 790, 791, 792, 793, 794, 795, 796, 797, 798, 799, 800, 801, 802, 803] (by decide +kernel) (by decide +kernel)
set_option maxRecDepth 20000 in
theorem gL_law_X7_forget : GoodIn wsL_law (wsV RL 76 RX7 yX7_forget wsX7_forget) := goodIn_app (goodIn_of _ (by decide +kernel)) ggL_law_X7_forget
set_option maxRecDepth 20000 in
theorem ggL_law_X6_talks : GoodIn wsL_law wsX6_talks := goodIn_r _ [627, 23, 302, 36, 27, 628, 629, 630, 631, 632, 633, 35, 634, 84, 85, 86, 83, 635, 364, 365, 26, 366, 68, 66, 67, 636, 637, 638, 639, 640, 641, 642, 643, 644, 645, 646, 647, 648, 649, 650, 651, 396, 2, 397, 398, 399, 400, 401, 402, 403, 404, 405, 406, 764, 765, 766, 767, 768, 769, 770, 771, 772, 810, 811, 812, 813, 828, 829, 830, 831, 814, 815, 816, 817, 818, 819, 820, 821, 822, 823, 824] (by decide +kernel) (by decide +kernel)
set_option maxRecDepth 20000 in
theorem gL_law_X6_talks : GoodIn wsL_law (wsV RL 77 RX6 yX6_talks wsX6_talks) := goodIn_app (goodIn_of _ (by decide +kernel)) ggL_law_X6_talks
set_option maxRecDepth 20000 in
theorem ggL_law_X7_talks : GoodIn wsL_law wsX7_talks := goodIn_r _ [655, 656, 657, 95, 101, 658, 324, 121, 122, 5, 123, 349, 350, 351, 352, 329, 330, 331, 659, 660, 661, 662, 663, 664, 665, 666, 452, 453, 454, 455, 456, 457, 458, 459, 94, 460, 461, 462, 463, 464, 465, 773, 774, 775, 776, 777, 778, 779, 780, 781, 782, 783, 784, 785, 786, 787, 788, 789, 790, 791, 792, 793, 794, 795, 796, 797, 798, 799, 800, 801, 802, 803] (by decide +kernel) (by decide +kernel)
set_option maxRecDepth 20000 in
theorem gL_law_X7_talks : GoodIn wsL_law (wsV RL 80 RX7 yX7_talks wsX7_talks) := goodIn_app (goodIn_of _ (by decide +kernel)) ggL_law_X7_talks
set_option maxRecDepth 20000 in
theorem ggL_law_X6_image : GoodIn wsL_law wsX6_image := goodIn_r _ [670, 23, 302, 28, 27, 37, 508, 671, 672, 673, 26, 674, 63, 319, 312, 313, 314, 64, 65, 66, 67, 69, 70, 71, 68, 72, 73, 764, 765, 766, 767, 768, 769, 770, 771, 772, 810, 811, 812, 813, 814, 815, 816, 817, 818, 819, 820, 821, 822, 823, 824] (by decide +kernel) (by decide +kernel)
set_option maxRecDepth 20000 in
theorem gL_law_X6_image : GoodIn wsL_law (wsV RL 81 RX6 yX6_image wsX6_image) := goodIn_app (goodIn_of _ (by decide +kernel)) ggL_law_X6_image
set_option maxRecDepth 20000 in
theorem ggL_law_X7_image : GoodIn wsL_law wsX7_image := goodIn_r _ [678, 95, 102, 96, 103, 99, 104, 326, 679, 325, 680, 327, 681, 328, 105, 349, 350, 351, 5, 352, 324, 329, 330, 331, 773, 774, 775, 776, 777, 778, 779, 780, 781, 782, 783, 784, 785, 786, 787, 788, 789, 790, 791, 792, 793, 794, 795, 796, 797, 798, 799, 800, 801, 802, 803] (by decide +kernel) (by decide +kernel)
set_option maxRecDepth 20000 in
theorem gL_law_X7_image : GoodIn wsL_law (wsV RL 84 RX7 yX7_image wsX7_image) := goodIn_app (goodIn_of _ (by decide +kernel)) ggL_law_X7_image
set_option maxRecDepth 20000 in
theorem ggL_law_X6_restore : GoodIn wsL_law wsX6_restore := goodIn_r _ [685, 37, 27, 28, 508, 671, 672, 673, 26, 674, 63, 319, 312, 313, 314, 64, 65, 66, 67, 69, 70, 71, 68, 72, 73, 764, 765, 766, 767, 768, 769, 770, 771, 772, 814, 815, 816, 817, 818, 819, 820, 821, 822, 823, 824] (by decide +kernel) (by decide +kernel)
set_option maxRecDepth 20000 in
theorem gL_law_X6_restore : GoodIn wsL_law (wsV RL 85 RX6 yX6_restore wsX6_restore) := goodIn_app (goodIn_of _ (by decide +kernel)) ggL_law_X6_restore
set_option maxRecDepth 20000 in
theorem ggL_law_X7_restore : GoodIn wsL_law wsX7_restore := goodIn_r _ [689, 105, 328, 102, 95, 103, 96, 104, 99, 679, 326, 680, 325, 681, 327, 329, 330, 5, 331, 773, 774, 775, 776, 777, 778, 779, 780, 781, 782, 783, 784, 785, 786, 787, 788, 789, 790, 791, 792, 793, 794, 795, 796, 797, 798, 799, 800, 801, 802, 803] (by decide +kernel) (by decide +kernel)
set_option maxRecDepth 20000 in
theorem gL_law_X7_restore : GoodIn wsL_law (wsV RL 88 RX7 yX7_restore wsX7_restore) := goodIn_app (goodIn_of _ (by decide +kernel)) ggL_law_X7_restore
set_option maxRecDepth 20000 in
theorem ggL_law_X6_count : GoodIn wsL_law wsX6_count := goodIn_r _ [693, 23, 302, 27, 508, 490, 415, 15, 110, 38, 694, 695, 696, 26, 697, 698, 380, 381, 382, 68, 66, 699, 700, 701, 702, 703, 543, 544, 545, 67, 63, 64, 371, 372, 373, 374, 704, 705, 706, 707, 708, 364, 365, 366, 709, 710, 711, 712, 713, 714, 715, 764, 765, 766, 767, 768, 769, 770, 771, 772, 810, 811, 812, 813, 814, 815, 816, 817, 818, 819, 820, 821, 822, 823, 824, 804, 805] (by decide +kernel) (by decide +kernel)
set_option maxRecDepth 20000 in
theorem gL_law_X6_count : GoodIn wsL_law (wsV RL 89 RX6 yX6_count wsX6_count) := goodIn_app (goodIn_of _ (by decide +kernel)) ggL_law_X6_count
set_option maxRecDepth 20000 in
theorem ggL_law_X7_count : GoodIn wsL_law wsX7_count := goodIn_r _ [719, 720, 721, 722, 5, 723, 324, 326, 325, 327, 120, 328, 444, 445, 446, 447, 96, 724, 725, 726, 727, 554, 555, 556, 557, 95, 728, 729, 730, 731, 732, 733, 734, 773, 774, 775, 776, 777, 778, 779, 780, 781, 782, 783, 784, 785, 786, 787, 788, 789, 790, 791, 792, 793, 794, 795, 796, 797, 798, 799, 800, 801, 802, 803] (by decide +kernel) (by decide +kernel)
set_option maxRecDepth 20000 in
theorem gL_law_X7_count : GoodIn wsL_law (wsV RL 92 RX7 yX7_count wsX7_count) := goodIn_app (goodIn_of _ (by decide +kernel)) ggL_law_X7_count
set_option maxRecDepth 20000 in
theorem ggL_law_X6_digest : GoodIn wsL_law wsX6_digest := goodIn_r _ [738, 739, 23, 302, 336, 27, 508, 15, 110, 740, 741, 742, 2, 743, 744, 745, 354, 355, 356, 357, 358, 359, 360, 361, 362, 363, 364, 365, 26, 366, 68, 66, 67, 367, 368, 369, 370, 64, 371, 372, 373, 374, 375, 376, 377, 378, 379, 380, 381, 382, 383, 384, 385, 386, 387, 388, 389, 390, 391, 392, 393, 394, 395, 396, 397, 398, 399, 400, 401, 402, 403, 404, 405, 406, 407, 408, 409, 410, 411, 412, 413, 414, 415, 416, 417, 418, 419, 420, 421, 422, 423, 424, 425, 426, 427, 194, 195, 196, 746, 539, 540, 541, 521, 522, 523, 524, 525, 526, 527, 528, 542, 543, 544, 545, 63, 747, 559, 560, 561, 32, 562, 563, 564, 565, 566, 567, 568, 569, 570, 571, 572, 529, 573, 574, 575, 31, 576, 77, 79, 78, 577, 578, 579, 580, 581, 582, 583, 584, 748, 691, 692, 693, 490, 38, 694, 695, 696, 697, 698, 699, 700, 701, 702, 703, 704, 705, 706, 707, 708, 709, 710, 711, 712, 713, 714, 715, 764, 765, 766, 767, 768, 769, 770, 771, 772, 810, 811, 812, 813, 814, 815, 816, 817, 818, 819, 820, 821, 822, 823, 824, 804, 805, 825, 826, 827] (by decide +kernel) (by decide +kernel)
set_option maxRecDepth 20000 in
theorem gL_law_X6_digest : GoodIn wsL_law (wsV RL 93 RX6 yX6_digest wsX6_digest) := goodIn_app (goodIn_of _ (by decide +kernel)) ggL_law_X6_digest
set_option maxRecDepth 20000 in
theorem ggL_law_X7_digest : GoodIn wsL_law wsX7_digest := goodIn_r _ [752, 753, 754, 94, 324, 326, 120, 91, 349, 350, 351, 5, 352, 755, 756, 757, 758, 759, 760, 761, 762, 763, 436, 437, 438, 439, 95, 440, 441, 442, 443, 96, 444, 445, 446, 447, 448, 449, 450, 451, 452, 453, 454, 455, 456, 457, 458, 459, 460, 461, 462, 463, 464, 465, 466, 467, 468, 469, 327, 99, 470, 471, 472, 473, 100, 550, 551, 552, 553, 348, 121, 122, 123, 554, 555, 556, 557, 591, 592, 593, 594, 97, 98, 595, 596, 597, 598, 599, 600, 601, 602, 329, 330, 331, 720, 721, 722, 723, 325, 328, 724, 725, 726, 727, 728, 729, 730, 731, 732, 733, 734, 773, 774, 775, 776, 777, 778, 779, 780, 781, 782, 783, 784, 785, 786, 787, 788, 789, 790, 791, 792, 793, 794, 795, 796, 797, 798, 799, 800, 801, 802, 803] (by decide +kernel) (by decide +kernel)
set_option maxRecDepth 20000 in
theorem gL_law_X7_digest : GoodIn wsL_law (wsV RL 97 RX7 yX7_digest wsX7_digest) := goodIn_app (goodIn_of _ (by decide +kernel)) ggL_law_X7_digest
