set_option maxRecDepth 20000 in
theorem ggL_law_X5_init : GoodIn wsL_law wsX5_init := goodIn_r _ [8, 9, 10, 11, 12, 13, 14, 15, 16, 17, 18, 19, 20, 21, 22, 23, 24, 25, 26, 27, 28, 29, 30, 31, 32, 33, 34, 35, 36, 37, 38, 39, 40, 41, 42, 43, 44, 45, 46, 47, 48, 49, 50, 51, 52, 53, 54, 55, 56, 57, 58, 59, 60, 61, 62, 63, 64, 65, 66, 67, 68, 69, 70, 71, 72, 73, 74, 75, 76, 77, 78, 79, 856, 857, 858, 859, 860, 861, 862, 863, 864, 865, 866, 831, 832, 833, 834, 835, 836, 837, 838, 839, 867, 868, 869, 870, 871, 872, 873, 874, 875, 876, 877, 878, 879, 880, 881, 882] (by decide +kernel) (by decide +kernel)
set_option maxRecDepth 20000 in
theorem gL_law_X5_init : GoodIn wsL_law (wsX5_init) := ggL_law_X5_init
set_option maxRecDepth 20000 in
theorem ggL_law_X6_init : GoodIn wsL_law wsX6_init := goodIn_r _ [82, 83, 10, 11, 12, 84, 85, 86, 87, 88, 89, 90, 91, 92, 93, 94, 5, 95, 96, 97, 98, 99, 100, 101, 840, 841, 842, 843, 844, 845, 846, 847, 848, 849, 850, 851, 852, 853, 854, 855] (by decide +kernel) (by decide +kernel)
set_option maxRecDepth 20000 in
theorem gL_law_X6_init : GoodIn wsL_law (wsX6_init) := ggL_law_X6_init
set_option maxRecDepth 20000 in
theorem ggL_law_X5_type : GoodIn wsL_law wsX5_type := goodIn_r _ [105, 16, 106, 107, 108, 2, 109, 110, 111, 112, 15, 113, 114, 41, 831, 832, 833, 834, 835, 836, 837, 838, 839, 856, 857, 858, 859, 860, 861, 862, 863, 864, 865, 866] (by decide +kernel) (by decide +kernel)
set_option maxRecDepth 20000 in
theorem gL_law_X5_type : GoodIn wsL_law (wsV RL 13 RX5 yX5_type wsX5_type) := goodIn_app (goodIn_of _ (by decide +kernel)) ggL_law_X5_type
set_option maxRecDepth 20000 in
theorem ggL_law_X6_type : GoodIn wsL_law wsX6_type := goodIn_r _ [118, 119, 120, 84, 121, 122, 5, 123, 840, 841, 842, 843, 844, 845, 846, 847, 848, 849, 850, 851, 852, 853, 854, 855] (by decide +kernel) (by decide +kernel)
set_option maxRecDepth 20000 in
theorem gL_law_X6_type : GoodIn wsL_law (wsV RL 17 RX6 yX6_type wsX6_type) := goodIn_app (goodIn_of _ (by decide +kernel)) ggL_law_X6_type
set_option maxRecDepth 20000 in
theorem ggL_law_X5_clear : GoodIn wsL_law wsX5_clear := goodIn_r _ [127, 16, 106, 831, 832, 833, 834, 835, 836, 837, 838, 839, 856, 857, 858, 859, 860, 861, 862, 863, 864, 865, 866] (by decide +kernel) (by decide +kernel)
set_option maxRecDepth 20000 in
theorem gL_law_X5_clear : GoodIn wsL_law (wsV RL 18 RX5 yX5_clear wsX5_clear) := goodIn_app (goodIn_of _ (by decide +kernel)) ggL_law_X5_clear
set_option maxRecDepth 20000 in
theorem ggL_law_X6_clear : GoodIn wsL_law wsX6_clear := goodIn_r _ [131, 120, 840, 841, 842, 843, 844, 845, 846, 847, 848, 849, 850, 851, 852, 853, 854, 855] (by decide +kernel) (by decide +kernel)
set_option maxRecDepth 20000 in
theorem gL_law_X6_clear : GoodIn wsL_law (wsV RL 22 RX6 yX6_clear wsX6_clear) := goodIn_app (goodIn_of _ (by decide +kernel)) ggL_law_X6_clear
set_option maxRecDepth 20000 in
theorem ggL_law_X5_field : GoodIn wsL_law wsX5_field := goodIn_r _ [135, 16, 20, 136, 24, 137, 35, 36, 106, 138, 139, 140, 15, 141, 142, 143, 114, 144, 145, 146, 147, 43, 44, 148, 149, 150, 151, 54, 55, 19, 56, 57, 58, 59, 152, 153, 154, 155, 41, 156, 108, 2, 109, 157, 158, 159, 160, 161, 162, 163, 164, 165, 166, 167, 168, 169, 170, 171, 172, 45, 173, 174, 175, 176, 177, 178, 179, 180, 23, 181, 182, 183, 184, 185, 186, 187, 188, 189, 190, 50, 51, 52, 191, 192, 193, 194, 195, 196, 197, 198, 199, 200, 201, 202, 203, 204, 205, 206, 207, 208, 209, 210, 211, 212, 64, 213, 214, 215, 831, 832, 833, 834, 835, 836, 837, 838, 839, 856, 857, 858, 859, 860, 861, 862, 863, 864, 865, 866, 867, 868, 869, 870, 871, 872, 873, 874, 875, 876] (by decide +kernel) (by decide +kernel)
set_option maxRecDepth 20000 in
theorem gL_law_X5_field : GoodIn wsL_law (wsV RL 23 RX5 yX5_field wsX5_field) := goodIn_app (goodIn_of _ (by decide +kernel)) ggL_law_X5_field
set_option maxRecDepth 20000 in
theorem ggL_law_X6_field : GoodIn wsL_law wsX6_field := goodIn_r _ [219, 220, 221, 222, 120, 92, 93, 94, 5, 95, 85, 223, 224, 225, 226, 84, 227, 228, 229, 230, 231, 121, 122, 123, 232, 233, 234, 235, 236, 237, 238, 239, 240, 241, 242, 243, 244, 245, 246, 247, 248, 249, 250, 251, 252, 253, 254, 255, 256, 257, 258, 259, 260, 261, 262, 263, 264, 265, 266, 267, 268, 269, 96, 97, 98, 99, 86, 87, 100, 101, 91, 840, 841, 842, 843, 844, 845, 846, 847, 848, 849, 850, 851, 852, 853, 854, 855] (by decide +kernel) (by decide +kernel)
set_option maxRecDepth 20000 in
theorem gL_law_X6_field : GoodIn wsL_law (wsV RL 26 RX6 yX6_field wsX6_field) := goodIn_app (goodIn_of _ (by decide +kernel)) ggL_law_X6_field
set_option maxRecDepth 20000 in
theorem ggL_law_X5_tree : GoodIn wsL_law wsX5_tree := goodIn_r _ [273, 24, 28, 274, 275, 276, 2, 277, 278, 279, 280, 23, 281, 64, 282, 283, 284, 285, 286, 287, 288, 289, 290, 291, 292, 293, 294, 295, 296, 297, 298, 299, 300, 301, 302, 303, 304, 27, 305, 70, 71, 306, 307, 308, 309, 310, 311, 312, 313, 314, 315, 316, 317, 318, 319, 320, 321, 19, 322, 57, 52, 323, 324, 325, 326, 50, 51, 58, 831, 832, 833, 834, 835, 836, 837, 838, 839, 873, 874, 875, 876, 877, 878, 879, 867, 868, 869, 870, 871, 872] (by decide +kernel) (by decide +kernel)
set_option maxRecDepth 20000 in
theorem gL_law_X5_tree : GoodIn wsL_law (wsV RL 27 RX5 yX5_tree wsX5_tree) := goodIn_app (goodIn_of _ (by decide +kernel)) ggL_law_X5_tree
set_option maxRecDepth 20000 in
theorem ggL_law_X6_tree : GoodIn wsL_law wsX6_tree := goodIn_r _ [330, 331, 87, 332, 333, 334, 5, 335, 121, 122, 123, 336, 337, 338, 339, 86, 340, 341, 342, 343, 344, 345, 346, 347, 348, 349, 350, 351, 352, 353, 354, 355, 356, 357, 358, 359, 360, 361, 362, 363, 840, 841, 842, 843, 844, 845, 846, 847, 848, 849, 850, 851, 852, 853, 854, 855] (by decide +kernel) (by decide +kernel)
set_option maxRecDepth 20000 in
theorem gL_law_X6_tree : GoodIn wsL_law (wsV RL 31 RX6 yX6_tree wsX6_tree) := goodIn_app (goodIn_of _ (by decide +kernel)) ggL_law_X6_tree
set_option maxRecDepth 20000 in
theorem ggL_law_X5_house : GoodIn wsL_law wsX5_house := goodIn_r _ [367, 20, 368, 369, 370, 24, 28, 371, 372, 373, 2, 374, 375, 376, 377, 378, 23, 379, 64, 380, 381, 382, 27, 383, 71, 384, 279, 280, 281, 385, 386, 387, 388, 70, 389, 308, 309, 310, 311, 312, 313, 314, 315, 316, 299, 300, 301, 317, 291, 292, 293, 318, 295, 296, 297, 306, 283, 284, 285, 307, 287, 288, 289, 390, 324, 325, 19, 326, 50, 51, 58, 391, 392, 393, 394, 395, 396, 397, 398, 399, 400, 401, 402, 403, 404, 405, 831, 832, 833, 834, 835, 836, 837, 838, 839, 867, 868, 869, 870, 871, 872, 873, 874, 875, 876, 877, 878, 879] (by decide +kernel) (by decide +kernel)
set_option maxRecDepth 20000 in
theorem gL_law_X5_house : GoodIn wsL_law (wsV RL 32 RX5 yX5_house wsX5_house) := goodIn_app (goodIn_of _ (by decide +kernel)) ggL_law_X5_house
set_option maxRecDepth 20000 in
theorem ggL_law_X6_house : GoodIn wsL_law wsX6_house := goodIn_r _ [409, 331, 86, 87, 410, 411, 412, 5, 413, 121, 122, 123, 414, 415, 416, 417, 340, 341, 342, 343, 344, 345, 346, 347, 348, 349, 350, 351, 352, 353, 354, 355, 356, 357, 358, 359, 360, 361, 362, 363, 418, 419, 420, 421, 422, 423, 424, 840, 841, 842, 843, 844, 845, 846, 847, 848, 849, 850, 851, 852, 853, 854, 855] (by decide +kernel) (by decide +kernel)
set_option maxRecDepth 20000 in
theorem gL_law_X6_house : GoodIn wsL_law (wsV RL 35 RX6 yX6_house wsX6_house) := goodIn_app (goodIn_of _ (by decide +kernel)) ggL_law_X6_house
set_option maxRecDepth 20000 in
theorem ggL_law_X5_year : GoodIn wsL_law wsX5_year := goodIn_r _ [428, 24, 429, 28, 430, 431, 432, 23, 433, 64, 65, 215, 213, 206, 207, 208, 214, 312, 313, 314, 315, 434, 435, 436, 437, 438, 279, 280, 281, 316, 299, 300, 301, 317, 291, 292, 293, 318, 295, 296, 297, 439, 440, 441, 27, 442, 443, 444, 445, 446, 71, 384, 447, 303, 304, 305, 70, 306, 283, 284, 285, 307, 287, 288, 289, 308, 309, 310, 311, 319, 320, 321, 19, 322, 57, 52, 323, 324, 325, 326, 50, 51, 58, 831, 832, 833, 834, 835, 836, 837, 838, 839, 873, 874, 875, 876, 877, 878, 879, 867, 868, 869, 870, 871, 872] (by decide +kernel) (by decide +kernel)
set_option maxRecDepth 20000 in
theorem gL_law_X5_year : GoodIn wsL_law (wsV RL 36 RX5 yX5_year wsX5_year) := goodIn_app (goodIn_of _ (by decide +kernel)) ggL_law_X5_year
set_option maxRecDepth 20000 in
theorem ggL_law_X6_year : GoodIn wsL_law wsX6_year := goodIn_r _ [451, 87, 452, 453, 454, 5, 455, 101, 88, 456, 457, 458, 459, 460, 461, 462, 463, 336, 337, 338, 339, 86, 340, 341, 342, 343, 344, 345, 346, 347, 348, 349, 350, 351, 352, 353, 354, 355, 356, 357, 358, 359, 360, 361, 362, 363, 840, 841, 842, 843, 844, 845, 846, 847, 848, 849, 850, 851, 852, 853, 854, 855] (by decide +kernel) (by decide +kernel)
set_option maxRecDepth 20000 in
theorem gL_law_X6_year : GoodIn wsL_law (wsV RL 39 RX6 yX6_year wsX6_year) := goodIn_app (goodIn_of _ (by decide +kernel)) ggL_law_X6_year
set_option maxRecDepth 20000 in
theorem ggL_law_X5_storm : GoodIn wsL_law wsX5_storm := goodIn_r _ [467, 24, 32, 429, 20, 468, 107, 108, 2, 109, 430, 431, 432, 23, 433, 64, 65, 215, 213, 206, 207, 208, 214, 312, 313, 314, 315, 469, 470, 471, 472, 438, 279, 280, 281, 316, 299, 300, 301, 473, 474, 475, 31, 476, 78, 477, 478, 479, 77, 480, 481, 482, 483, 484, 485, 287, 288, 289, 486, 291, 292, 293, 487, 283, 284, 285, 488, 489, 490, 831, 832, 833, 834, 835, 836, 837, 838, 839, 873, 874, 875, 876, 867, 868, 869, 870, 871, 872, 880, 881, 882] (by decide +kernel) (by decide +kernel)
set_option maxRecDepth 20000 in
theorem gL_law_X5_storm : GoodIn wsL_law (wsV RL 40 RX5 yX5_storm wsX5_storm) := goodIn_app (goodIn_of _ (by decide +kernel)) ggL_law_X5_storm
set_option maxRecDepth 20000 in
theorem ggL_law_X6_storm : GoodIn wsL_law wsX6_storm := goodIn_r _ [494, 495, 121, 122, 5, 123, 452, 453, 454, 455, 101, 88, 87, 496, 497, 498, 499, 86, 500, 501, 502, 503, 504, 505, 356, 357, 358, 359, 360, 361, 362, 363, 348, 349, 350, 351, 840, 841, 842, 843, 844, 845, 846, 847, 848, 849, 850, 851, 852, 853, 854, 855] (by decide +kernel) (by decide +kernel)
set_option maxRecDepth 20000 in
theorem gL_law_X6_storm : GoodIn wsL_law (wsV RL 43 RX6 yX6_storm wsX6_storm) := goodIn_app (goodIn_of _ (by decide +kernel)) ggL_law_X6_storm
set_option maxRecDepth 20000 in
theorem ggL_law_X5_tops : GoodIn wsL_law wsX5_tops := goodIn_r _ [509, 24, 429, 274, 275, 276, 2, 277, 278, 279, 280, 23, 281, 64, 107, 108, 109, 430, 431, 432, 433, 65, 215, 213, 206, 207, 208, 214, 312, 313, 314, 315, 290, 291, 292, 293, 510, 511, 512, 513, 396, 397, 831, 832, 833, 834, 835, 836, 837, 838, 839, 873, 874, 875, 876] (by decide +kernel) (by decide +kernel)
set_option maxRecDepth 20000 in
theorem gL_law_X5_tops : GoodIn wsL_law (wsV RL 44 RX5 yX5_tops wsX5_tops) := goodIn_app (goodIn_of _ (by decide +kernel)) ggL_law_X5_tops
set_option maxRecDepth 20000 in
theorem ggL_law_X6_tops : GoodIn wsL_law wsX6_tops := goodIn_r _ [517, 518, 87, 332, 333, 334, 5, 335, 121, 122, 123, 452, 453, 454, 455, 101, 88, 356, 357, 358, 359, 840, 841, 842, 843, 844, 845, 846, 847, 848, 849, 850, 851, 852, 853, 854, 855] (by decide +kernel) (by decide +kernel)
set_option maxRecDepth 20000 in
theorem gL_law_X6_tops : GoodIn wsL_law (wsV RL 47 RX6 yX6_tops wsX6_tops) := goodIn_app (goodIn_of _ (by decide +kernel)) ggL_law_X6_tops
set_option maxRecDepth 20000 in
theorem ggL_law_X5_plants : GoodIn wsL_law wsX5_plants := goodIn_r _ [522, 24, 429, 107, 108, 2, 109, 278, 279, 280, 23, 281, 64, 430, 431, 432, 433, 65, 215, 213, 206, 207, 208, 214, 312, 313, 314, 315, 523, 180, 181, 831, 832, 833, 834, 835, 836, 837, 838, 839, 873, 874, 875, 876] (by decide +kernel) (by decide +kernel)
set_option maxRecDepth 20000 in
theorem gL_law_X5_plants : GoodIn wsL_law (wsV RL 48 RX5 yX5_plants wsX5_plants) := goodIn_app (goodIn_of _ (by decide +kernel)) ggL_law_X5_plants
set_option maxRecDepth 20000 in
theorem ggL_law_X6_plants : GoodIn wsL_law wsX6_plants := goodIn_r _ [527, 495, 87, 121, 122, 5, 123, 452, 453, 454, 455, 101, 88, 840, 841, 842, 843, 844, 845, 846, 847, 848, 849, 850, 851, 852, 853, 854, 855] (by decide +kernel) (by decide +kernel)
set_option maxRecDepth 20000 in
theorem gL_law_X6_plants : GoodIn wsL_law (wsV RL 51 RX6 yX6_plants wsX6_plants) := goodIn_app (goodIn_of _ (by decide +kernel)) ggL_law_X6_plants
set_option maxRecDepth 20000 in
theorem ggL_law_X5_undo : GoodIn wsL_law wsX5_undo := goodIn_r _ [531, 24, 532, 533, 534, 535, 23, 536, 215, 214, 65, 64, 213, 206, 207, 208, 831, 832, 833, 834, 835, 836, 837, 838, 839, 873, 874, 875, 876] (by decide +kernel) (by decide +kernel)
set_option maxRecDepth 20000 in
theorem gL_law_X5_undo : GoodIn wsL_law (wsV RL 52 RX5 yX5_undo wsX5_undo) := goodIn_app (goodIn_of _ (by decide +kernel)) ggL_law_X5_undo
set_option maxRecDepth 20000 in
theorem ggL_law_X6_undo : GoodIn wsL_law wsX6_undo := goodIn_r _ [540, 101, 87, 88, 840, 841, 842, 843, 844, 845, 846, 847, 848, 849, 850, 851, 852, 853, 854, 855] (by decide +kernel) (by decide +kernel)
set_option maxRecDepth 20000 in
theorem gL_law_X6_undo : GoodIn wsL_law (wsV RL 55 RX6 yX6_undo wsX6_undo) := goodIn_app (goodIn_of _ (by decide +kernel)) ggL_law_X6_undo
set_option maxRecDepth 20000 in
theorem ggL_law_X5_now : GoodIn wsL_law wsX5_now := goodIn_r _ [544, 24, 429, 28, 439, 440, 441, 27, 442, 443, 444, 445, 446, 71, 384, 279, 280, 23, 281, 64, 447, 303, 304, 305, 70, 306, 283, 284, 285, 307, 287, 288, 289, 308, 309, 310, 311, 312, 313, 314, 315, 316, 299, 300, 301, 317, 291, 292, 293, 318, 295, 296, 297, 319, 320, 321, 19, 322, 57, 52, 323, 324, 325, 326, 50, 51, 58, 469, 470, 471, 472, 438, 545, 546, 547, 548, 549, 550, 392, 393, 394, 389, 395, 396, 397, 398, 381, 382, 383, 385, 386, 387, 388, 390, 399, 400, 401, 402, 403, 404, 405, 551, 552, 553, 2, 554, 20, 375, 376, 377, 378, 379, 555, 556, 557, 558, 72, 559, 560, 561, 562, 563, 831, 832, 833, 834, 835, 836, 837, 838, 839, 873, 874, 875, 876, 877, 878, 879, 867, 868, 869, 870, 871, 872] (by decide +kernel) (by decide +kernel)
set_option maxRecDepth 20000 in
theorem gL_law_X5_now : GoodIn wsL_law (wsV RL 56 RX5 yX5_now wsX5_now) := goodIn_app (goodIn_of _ (by decide +kernel)) ggL_law_X5_now
set_option maxRecDepth 20000 in
theorem ggL_law_X6_now : GoodIn wsL_law wsX6_now := goodIn_r _ [567, 87, 86, 348, 349, 350, 5, 351, 418, 419, 420, 421, 360, 361, 362, 363, 414, 415, 416, 417, 340, 341, 342, 343, 344, 345, 346, 347, 352, 353, 354, 355, 356, 357, 358, 359, 422, 423, 424, 460, 461, 462, 463, 336, 337, 338, 339, 568, 569, 570, 571, 840, 841, 842, 843, 844, 845, 846, 847, 848, 849, 850, 851, 852, 853, 854, 855] (by decide +kernel) (by decide +kernel)
set_option maxRecDepth 20000 in
theorem gL_law_X6_now : GoodIn wsL_law (wsV RL 59 RX6 yX6_now wsX6_now) := goodIn_app (goodIn_of _ (by decide +kernel)) ggL_law_X6_now
set_option maxRecDepth 20000 in
theorem ggL_law_X5_only : GoodIn wsL_law wsX5_only := goodIn_r _ [575, 28, 371, 372, 373, 2, 374, 20, 375, 576, 577, 578, 27, 579, 71, 398, 381, 382, 383, 384, 279, 280, 23, 281, 64, 385, 386, 387, 388, 70, 389, 308, 309, 310, 311, 312, 313, 314, 315, 316, 299, 300, 301, 317, 291, 292, 293, 318, 295, 296, 297, 306, 283, 284, 285, 307, 287, 288, 289, 390, 324, 325, 19, 326, 50, 51, 58, 831, 832, 833, 834, 835, 836, 837, 838, 839, 867, 868, 869, 870, 871, 872, 877, 878, 879, 873, 874, 875, 876] (by decide +kernel) (by decide +kernel)
set_option maxRecDepth 20000 in
theorem gL_law_X5_only : GoodIn wsL_law (wsV RL 60 RX5 yX5_only wsX5_only) := goodIn_app (goodIn_of _ (by decide +kernel)) ggL_law_X5_only
set_option maxRecDepth 20000 in
theorem ggL_law_X6_only : GoodIn wsL_law wsX6_only := goodIn_r _ [583, 410, 411, 412, 5, 413, 86, 121, 122, 123, 414, 415, 416, 417, 87, 340, 341, 342, 343, 344, 345, 346, 347, 348, 349, 350, 351, 352, 353, 354, 355, 356, 357, 358, 359, 360, 361, 362, 363, 422, 423, 424, 840, 841, 842, 843, 844, 845, 846, 847, 848, 849, 850, 851, 852, 853, 854, 855] (by decide +kernel) (by decide +kernel)
set_option maxRecDepth 20000 in
theorem gL_law_X6_only : GoodIn wsL_law (wsV RL 63 RX6 yX6_only wsX6_only) := goodIn_app (goodIn_of _ (by decide +kernel)) ggL_law_X6_only
set_option maxRecDepth 20000 in
theorem ggL_law_X5_when : GoodIn wsL_law wsX5_when := goodIn_r _ [587, 28, 371, 372, 373, 2, 374, 20, 375, 588, 589, 590, 27, 591, 559, 440, 441, 442, 443, 444, 445, 446, 71, 384, 279, 280, 23, 281, 64, 447, 303, 304, 305, 70, 306, 283, 284, 285, 307, 287, 288, 289, 308, 309, 310, 311, 312, 313, 314, 315, 316, 299, 300, 301, 317, 291, 292, 293, 318, 295, 296, 297, 319, 320, 321, 19, 322, 57, 52, 323, 324, 325, 326, 50, 51, 58, 831, 832, 833, 834, 835, 836, 837, 838, 839, 867, 868, 869, 870, 871, 872, 877, 878, 879, 873, 874, 875, 876] (by decide +kernel) (by decide +kernel)
set_option maxRecDepth 20000 in
theorem gL_law_X5_when : GoodIn wsL_law (wsV RL 64 RX5 yX5_when wsX5_when) := goodIn_app (goodIn_of _ (by decide +kernel)) ggL_law_X5_when
set_option maxRecDepth 20000 in
theorem ggL_law_X6_when : GoodIn wsL_law wsX6_when := goodIn_r _ [595, 410, 411, 412, 5, 413, 86, 121, 122, 123, 596, 597, 598, 599, 89, 87, 414, 415, 416, 417, 340, 341, 342, 343, 344, 345, 346, 347, 348, 349, 350, 351, 352, 353, 354, 355, 356, 357, 358, 359, 360, 361, 362, 363, 456, 457, 458, 459, 600, 601, 602, 603, 840, 841, 842, 843, 844, 845, 846, 847, 848, 849, 850, 851, 852, 853, 854, 855] (by decide +kernel) (by decide +kernel)
set_option maxRecDepth 20000 in
theorem gL_law_X6_when : GoodIn wsL_law (wsV RL 67 RX6 yX6_when wsX6_when) := goodIn_app (goodIn_of _ (by decide +kernel)) ggL_law_X6_when
set_option maxRecDepth 20000 in
theorem ggL_law_X5_where : GoodIn wsL_law wsX5_where := goodIn_r _ [607, 28, 107, 108, 2, 109, 608, 609, 610, 27, 611, 70, 72, 612, 613, 614, 19, 615, 57, 559, 440, 441, 442, 443, 444, 445, 446, 71, 384, 279, 280, 23, 281, 64, 447, 303, 304, 305, 306, 283, 284, 285, 307, 287, 288, 289, 308, 309, 310, 311, 312, 313, 314, 315, 316, 299, 300, 301, 317, 291, 292, 293, 318, 295, 296, 297, 319, 320, 321, 322, 52, 323, 324, 325, 326, 50, 51, 58, 616, 617, 618, 619, 620, 621, 622, 623, 624, 831, 832, 833, 834, 835, 836, 837, 838, 839, 877, 878, 879, 867, 868, 869, 870, 871, 872, 873, 874, 875, 876] (by decide +kernel) (by decide +kernel)
set_option maxRecDepth 20000 in
theorem gL_law_X5_where : GoodIn wsL_law (wsV RL 68 RX5 yX5_where wsX5_where) := goodIn_app (goodIn_of _ (by decide +kernel)) ggL_law_X5_where
set_option maxRecDepth 20000 in
theorem ggL_law_X6_where : GoodIn wsL_law wsX6_where := goodIn_r _ [628, 629, 505, 86, 121, 122, 5, 123, 596, 597, 598, 599, 89, 87, 456, 457, 458, 459, 460, 461, 462, 463, 336, 337, 338, 339, 340, 341, 342, 343, 344, 345, 346, 347, 348, 349, 350, 351, 352, 353, 354, 355, 356, 357, 358, 359, 360, 361, 362, 363, 600, 601, 602, 603, 630, 631, 632, 633, 840, 841, 842, 843, 844, 845, 846, 847, 848, 849, 850, 851, 852, 853, 854, 855] (by decide +kernel) (by decide +kernel)
set_option maxRecDepth 20000 in
theorem gL_law_X6_where : GoodIn wsL_law (wsV RL 71 RX6 yX6_where wsX6_where) := goodIn_app (goodIn_of _ (by decide +kernel)) ggL_law_X6_where
set_option maxRecDepth 20000 in
theorem ggL_law_X5_sold : GoodIn wsL_law wsX5_sold := goodIn_r _ [637, 28, 638, 639, 640, 27, 641, 71, 384, 279, 280, 23, 281, 64, 642, 643, 644, 645, 70, 549, 646, 647, 648, 649, 385, 386, 387, 388, 389, 308, 309, 310, 311, 312, 313, 314, 315, 316, 299, 300, 301, 317, 291, 292, 293, 318, 295, 296, 297, 306, 283, 284, 285, 307, 287, 288, 289, 390, 324, 325, 19, 326, 50, 51, 58, 650, 274, 275, 276, 2, 277, 24, 278, 651, 831, 832, 833, 834, 835, 836, 837, 838, 839, 877, 878, 879, 873, 874, 875, 876, 867, 868, 869, 870, 871, 872] (by decide +kernel) (by decide +kernel)
set_option maxRecDepth 20000 in
theorem gL_law_X5_sold : GoodIn wsL_law (wsV RL 72 RX5 yX5_sold wsX5_sold) := goodIn_app (goodIn_of _ (by decide +kernel)) ggL_law_X5_sold
set_option maxRecDepth 20000 in
theorem ggL_law_X6_sold : GoodIn wsL_law wsX6_sold := goodIn_r _ [655, 87, 332, 333, 334, 5, 335, 121, 122, 123, 656, 657, 658, 659, 86, 340, 341, 342, 343, 344, 345, 346, 347, 348, 349, 350, 351, 352, 353, 354, 355, 356, 357, 358, 359, 360, 361, 362, 363, 840, 841, 842, 843, 844, 845, 846, 847, 848, 849, 850, 851, 852, 853, 854, 855] (by decide +kernel) (by decide +kernel)
set_option maxRecDepth 20000 in
theorem gL_law_X6_sold : GoodIn wsL_law (wsV RL 75 RX6 yX6_sold wsX6_sold) := goodIn_app (goodIn_of _ (by decide +kernel)) ggL_law_X6_sold
set_option maxRecDepth 20000 in
theorem ggL_law_X5_ribbons : GoodIn wsL_law wsX5_ribbons := goodIn_r _ [663, 20, 375, 28, 664, 665, 666, 27, 667, 70, 72, 668, 71, 549, 389, 395, 396, 314, 397, 612, 613, 614, 19, 615, 57, 384, 279, 280, 23, 281, 64, 669, 299, 300, 301, 306, 283, 284, 285, 307, 287, 288, 289, 390, 324, 325, 326, 50, 51, 58, 650, 291, 292, 293, 670, 671, 672, 673, 620, 313, 315, 319, 320, 321, 322, 52, 323, 831, 832, 833, 834, 835, 836, 837, 838, 839, 867, 868, 869, 870, 871, 872, 877, 878, 879, 873, 874, 875, 876] (by decide +kernel) (by decide +kernel)
set_option maxRecDepth 20000 in
theorem gL_law_X5_ribbons : GoodIn wsL_law (wsV RL 76 RX5 yX5_ribbons wsX5_ribbons) := goodIn_app (goodIn_of _ (by decide +kernel)) ggL_law_X5_ribbons
set_option maxRecDepth 20000 in
theorem ggL_law_X6_ribbons : GoodIn wsL_law wsX6_ribbons := goodIn_r _ [677, 86, 90, 332, 333, 334, 5, 335, 87, 121, 122, 123, 344, 345, 346, 347, 348, 349, 350, 351, 352, 353, 354, 355, 360, 361, 362, 363, 356, 357, 358, 359, 840, 841, 842, 843, 844, 845, 846, 847, 848, 849, 850, 851, 852, 853, 854, 855] (by decide +kernel) (by decide +kernel)
set_option maxRecDepth 20000 in
theorem gL_law_X6_ribbons : GoodIn wsL_law (wsV RL 79 RX6 yX6_ribbons wsX6_ribbons) := goodIn_app (goodIn_of _ (by decide +kernel)) ggL_law_X6_ribbons
set_option maxRecDepth 20000 in
theorem ggL_law_X5_tracks : GoodIn wsL_law wsX5_tracks := goodIn_r _ [681, 32, 274, 275, 276, 2, 277, 24, 278, 279, 280, 23, 281, 64, 682, 683, 684, 31, 685, 78, 686, 470, 471, 472, 438, 316, 299, 300, 301, 687, 474, 475, 476, 477, 478, 314, 479, 77, 480, 481, 482, 483, 484, 485, 287, 288, 289, 486, 291, 292, 293, 487, 283, 284, 285, 488, 489, 490, 371, 372, 373, 374, 20, 375, 831, 832, 833, 834, 835, 836, 837, 838, 839, 873, 874, 875, 876, 880, 881, 882, 867, 868, 869, 870, 871, 872] (by decide +kernel) (by decide +kernel)
set_option maxRecDepth 20000 in
theorem gL_law_X5_tracks : GoodIn wsL_law (wsV RL 80 RX5 yX5_tracks wsX5_tracks) := goodIn_app (goodIn_of _ (by decide +kernel)) ggL_law_X5_tracks
set_option maxRecDepth 20000 in
theorem ggL_law_X6_tracks : GoodIn wsL_law wsX6_tracks := goodIn_r _ [691, 121, 122, 5, 123, 332, 333, 334, 335, 87, 410, 411, 412, 413, 86, 500, 501, 502, 503, 504, 505, 356, 357, 358, 359, 360, 361, 362, 363, 348, 349, 350, 351, 840, 841, 842, 843, 844, 845, 846, 847, 848, 849, 850, 851, 852, 853, 854, 855] (by decide +kernel) (by decide +kernel)
set_option maxRecDepth 20000 in
theorem gL_law_X6_tracks : GoodIn wsL_law (wsV RL 83 RX6 yX6_tracks wsX6_tracks) := goodIn_app (goodIn_of _ (by decide +kernel)) ggL_law_X6_tracks
set_option maxRecDepth 20000 in
theorem ggL_law_X5_odds : GoodIn wsL_law wsX5_odds := goodIn_r _ [695, 32, 371, 372, 373, 2, 374, 20, 375, 107, 108, 109, 696, 697, 698, 31, 699, 700, 701, 702, 703, 78, 79, 484, 279, 280, 23, 281, 64, 686, 470, 471, 472, 438, 316, 299, 300, 301, 704, 705, 706, 707, 687, 474, 475, 476, 477, 478, 314, 479, 77, 480, 481, 482, 483, 485, 287, 288, 289, 486, 291, 292, 293, 487, 283, 284, 285, 488, 489, 490, 831, 832, 833, 834, 835, 836, 837, 838, 839, 867, 868, 869, 870, 871, 872, 880, 881, 882, 873, 874, 875, 876] (by decide +kernel) (by decide +kernel)
set_option maxRecDepth 20000 in
theorem gL_law_X5_odds : GoodIn wsL_law (wsV RL 84 RX5 yX5_odds wsX5_odds) := goodIn_app (goodIn_of _ (by decide +kernel)) ggL_law_X5_odds
set_option maxRecDepth 20000 in
theorem ggL_law_X6_odds : GoodIn wsL_law wsX6_odds := goodIn_r _ [711, 712, 410, 411, 412, 5, 413, 86, 121, 122, 123, 596, 597, 598, 599, 89, 87, 496, 497, 498, 499, 500, 501, 502, 503, 504, 505, 356, 357, 358, 359, 360, 361, 362, 363, 348, 349, 350, 351, 600, 601, 602, 603, 840, 841, 842, 843, 844, 845, 846, 847, 848, 849, 850, 851, 852, 853, 854, 855] (by decide +kernel) (by decide +kernel)
set_option maxRecDepth 20000 in
theorem gL_law_X6_odds : GoodIn wsL_law (wsV RL 88 RX6 yX6_odds wsX6_odds) := goodIn_app (goodIn_of _ (by decide +kernel)) ggL_law_X6_odds
set_option maxRecDepth 20000 in
theorem ggL_law_X5_war : GoodIn wsL_law wsX5_war := goodIn_r _ [716, 24, 20, 370, 717, 313, 314, 315, 274, 275, 276, 2, 277, 278, 279, 280, 23, 281, 64, 371, 372, 373, 374, 375, 107, 108, 109, 290, 291, 292, 293, 294, 295, 296, 297, 831, 832, 833, 834, 835, 836, 837, 838, 839, 867, 868, 869, 870, 871, 872, 873, 874, 875, 876] (by decide +kernel) (by decide +kernel)
set_option maxRecDepth 20000 in
theorem gL_law_X5_war : GoodIn wsL_law (wsV RL 89 RX5 yX5_war wsX5_war) := goodIn_app (goodIn_of _ (by decide +kernel)) ggL_law_X5_war
set_option maxRecDepth 20000 in
theorem ggL_law_X6_war : GoodIn wsL_law wsX6_war := goodIn_r _ [721, 722, 87, 332, 333, 334, 5, 335, 121, 122, 123, 410, 411, 412, 413, 86, 356, 357, 358, 359, 360, 361, 362, 363, 840, 841, 842, 843, 844, 845, 846, 847, 848, 849, 850, 851, 852, 853, 854, 855] (by decide +kernel) (by decide +kernel)
set_option maxRecDepth 20000 in
theorem gL_law_X6_war : GoodIn wsL_law (wsV RL 92 RX6 yX6_war wsX6_war) := goodIn_app (goodIn_of _ (by decide +kernel)) ggL_law_X6_war
set_option maxRecDepth 20000 in
theorem ggL_law_X5_saw : GoodIn wsL_law wsX5_saw := goodIn_r _ [726, 20, 36, 727, 613, 614, 19, 615, 57, 107, 108, 2, 109, 831, 832, 833, 834, 835, 836, 837, 838, 839, 867, 868, 869, 870, 871, 872] (by decide +kernel) (by decide +kernel)
set_option maxRecDepth 20000 in
theorem gL_law_X5_saw : GoodIn wsL_law (wsV RL 93 RX5 yX5_saw wsX5_saw) := goodIn_app (goodIn_of _ (by decide +kernel)) ggL_law_X5_saw
set_option maxRecDepth 20000 in
theorem ggL_law_X6_saw : GoodIn wsL_law wsX6_saw := goodIn_r _ [731, 86, 100, 121, 122, 5, 123, 840, 841, 842, 843, 844, 845, 846, 847, 848, 849, 850, 851, 852, 853, 854, 855] (by decide +kernel) (by decide +kernel)
set_option maxRecDepth 20000 in
theorem gL_law_X6_saw : GoodIn wsL_law (wsV RL 96 RX6 yX6_saw wsX6_saw) := goodIn_app (goodIn_of _ (by decide +kernel)) ggL_law_X6_saw
set_option maxRecDepth 20000 in
theorem ggL_law_X5_whose : GoodIn wsL_law wsX5_whose := goodIn_r _ [735, 28, 36, 107, 108, 2, 109, 736, 737, 738, 27, 739, 71, 384, 279, 280, 23, 281, 64, 443, 444, 445, 446, 447, 303, 304, 305, 70, 306, 283, 284, 285, 307, 287, 288, 289, 308, 309, 310, 311, 312, 313, 314, 315, 316, 299, 300, 301, 317, 291, 292, 293, 318, 295, 296, 297, 319, 320, 321, 19, 322, 57, 52, 323, 324, 325, 326, 50, 51, 58, 740, 741, 742, 743, 669, 650, 511, 512, 513, 396, 397, 831, 832, 833, 834, 835, 836, 837, 838, 839, 877, 878, 879, 873, 874, 875, 876, 867, 868, 869, 870, 871, 872] (by decide +kernel) (by decide +kernel)
set_option maxRecDepth 20000 in
theorem gL_law_X5_whose : GoodIn wsL_law (wsV RL 97 RX5 yX5_whose wsX5_whose) := goodIn_app (goodIn_of _ (by decide +kernel)) ggL_law_X5_whose
set_option maxRecDepth 20000 in
theorem ggL_law_X6_whose : GoodIn wsL_law wsX6_whose := goodIn_r _ [747, 505, 87, 100, 121, 122, 5, 123, 356, 357, 358, 359, 460, 461, 462, 463, 336, 337, 338, 339, 86, 340, 341, 342, 343, 344, 345, 346, 347, 348, 349, 350, 351, 352, 353, 354, 355, 360, 361, 362, 363, 840, 841, 842, 843, 844, 845, 846, 847, 848, 849, 850, 851, 852, 853, 854, 855] (by decide +kernel) (by decide +kernel)
set_option maxRecDepth 20000 in
theorem gL_law_X6_whose : GoodIn wsL_law (wsV RL 100 RX6 yX6_whose wsX6_whose) := goodIn_app (goodIn_of _ (by decide +kernel)) ggL_law_X6_whose
set_option maxRecDepth 20000 in
theorem ggL_law_X5_mark : GoodIn wsL_law wsX5_mark := goodIn_r _ [751, 752, 274, 275, 276, 2, 277, 24, 278, 279, 280, 23, 281, 64, 753, 754, 755, 756, 37, 290, 291, 292, 293, 757, 758, 759, 760, 761, 28, 302, 303, 304, 27, 305, 70, 71, 306, 283, 284, 285, 307, 287, 288, 289, 308, 309, 310, 311, 312, 313, 314, 315, 316, 299, 300, 301, 317, 318, 295, 296, 297, 319, 320, 321, 19, 322, 57, 52, 323, 324, 325, 326, 50, 51, 58, 762, 400, 401, 402, 403, 404, 405, 763, 764, 765, 766, 767, 282, 768, 769, 770, 771, 772, 773, 774, 775, 776, 777, 294, 778, 779, 780, 781, 782, 429, 831, 832, 833, 834, 835, 836, 837, 838, 839, 873, 874, 875, 876, 877, 878, 879, 867, 868, 869, 870, 871, 872] (by decide +kernel) (by decide +kernel)
set_option maxRecDepth 20000 in
theorem gL_law_X5_mark : GoodIn wsL_law (wsV RL 101 RX5 yX5_mark wsX5_mark) := goodIn_app (goodIn_of _ (by decide +kernel)) ggL_law_X5_mark
set_option maxRecDepth 20000 in
theorem ggL_law_X6_mark : GoodIn wsL_law wsX6_mark := goodIn_r _ [786, 331, 787, 788, 789, 790, 791, 792, 793, 87, 121, 122, 5, 123, 332, 333, 334, 335, 356, 357, 358, 359, 336, 337, 338, 339, 86, 340, 341, 342, 343, 344, 345, 346, 347, 348, 349, 350, 351, 352, 353, 354, 355, 360, 361, 362, 363, 422, 423, 424, 840, 841, 842, 843, 844, 845, 846, 847, 848, 849, 850, 851, 852, 853, 854, 855] (by decide +kernel) (by decide +kernel)
set_option maxRecDepth 20000 in
theorem gL_law_X6_mark : GoodIn wsL_law (wsV RL 104 RX6 yX6_mark wsX6_mark) := goodIn_app (goodIn_of _ (by decide +kernel)) ggL_law_X6_mark
set_option maxRecDepth 20000 in
theorem ggL_law_X5_keep : GoodIn wsL_law wsX5_keep := goodIn_r _ [797, 33, 24, 35, 429, 107, 108, 2, 109, 798, 799, 800, 23, 801, 64, 213, 206, 207, 208, 65, 214, 215, 831, 832, 833, 834, 835, 836, 837, 838, 839, 873, 874, 875, 876] (by decide +kernel) (by decide +kernel)
set_option maxRecDepth 20000 in
theorem gL_law_X5_keep : GoodIn wsL_law (wsV RL 105 RX5 yX5_keep wsX5_keep) := goodIn_app (goodIn_of _ (by decide +kernel)) ggL_law_X5_keep
set_option maxRecDepth 20000 in
theorem ggL_law_X6_keep : GoodIn wsL_law wsX6_keep := goodIn_r _ [805, 91, 101, 87, 88, 121, 122, 5, 123, 840, 841, 842, 843, 844, 845, 846, 847, 848, 849, 850, 851, 852, 853, 854, 855] (by decide +kernel) (by decide +kernel)
set_option maxRecDepth 20000 in
theorem gL_law_X6_keep : GoodIn wsL_law (wsV RL 108 RX6 yX6_keep wsX6_keep) := goodIn_app (goodIn_of _ (by decide +kernel)) ggL_law_X6_keep
set_option maxRecDepth 20000 in
theorem ggL_law_X5_back : GoodIn wsL_law wsX5_back := goodIn_r _ [809, 35, 24, 33, 429, 107, 108, 2, 109, 798, 799, 800, 23, 801, 64, 213, 206, 207, 208, 65, 214, 215, 831, 832, 833, 834, 835, 836, 837, 838, 839, 873, 874, 875, 876] (by decide +kernel) (by decide +kernel)
set_option maxRecDepth 20000 in
theorem gL_law_X5_back : GoodIn wsL_law (wsV RL 109 RX5 yX5_back wsX5_back) := goodIn_app (goodIn_of _ (by decide +kernel)) ggL_law_X5_back
set_option maxRecDepth 20000 in
theorem ggL_law_X6_back : GoodIn wsL_law wsX6_back := goodIn_r _ [813, 91, 101, 87, 88, 121, 122, 5, 123, 840, 841, 842, 843, 844, 845, 846, 847, 848, 849, 850, 851, 852, 853, 854, 855] (by decide +kernel) (by decide +kernel)
set_option maxRecDepth 20000 in
theorem gL_law_X6_back : GoodIn wsL_law (wsV RL 112 RX6 yX6_back wsX6_back) := goodIn_app (goodIn_of _ (by decide +kernel)) ggL_law_X6_back
set_option maxRecDepth 20000 in
theorem ggL_law_X5_count : GoodIn wsL_law wsX5_count := goodIn_r _ [817, 24, 20, 375, 818, 468, 532, 16, 106, 278, 279, 280, 23, 281, 64, 831, 832, 833, 834, 835, 836, 837, 838, 839, 867, 868, 869, 870, 871, 872, 873, 874, 875, 876, 856, 857, 858, 859, 860, 861, 862, 863, 864, 865, 866] (by decide +kernel) (by decide +kernel)
set_option maxRecDepth 20000 in
theorem gL_law_X5_count : GoodIn wsL_law (wsV RL 113 RX5 yX5_count wsX5_count) := goodIn_app (goodIn_of _ (by decide +kernel)) ggL_law_X5_count
set_option maxRecDepth 20000 in
theorem ggL_law_X6_count : GoodIn wsL_law wsX6_count := goodIn_r _ [822, 87, 86, 101, 120, 840, 841, 842, 843, 844, 845, 846, 847, 848, 849, 850, 851, 852, 853, 854, 855] (by decide +kernel) (by decide +kernel)
set_option maxRecDepth 20000 in
theorem gL_law_X6_count : GoodIn wsL_law (wsV RL 116 RX6 yX6_count wsX6_count) := goodIn_app (goodIn_of _ (by decide +kernel)) ggL_law_X6_count
set_option maxRecDepth 20000 in
theorem ggL_law_X5_trace : GoodIn wsL_law wsX5_trace := goodIn_r _ [826, 37, 831, 832, 833, 834, 835, 836, 837, 838, 839] (by decide +kernel) (by decide +kernel)
set_option maxRecDepth 20000 in
theorem gL_law_X5_trace : GoodIn wsL_law (wsV RL 117 RX5 yX5_trace wsX5_trace) := goodIn_app (goodIn_of _ (by decide +kernel)) ggL_law_X5_trace
set_option maxRecDepth 20000 in
theorem ggL_law_X6_trace : GoodIn wsL_law wsX6_trace := goodIn_r _ [830, 788, 840, 841, 842, 843, 844, 845, 846, 847, 848, 849, 850, 851, 852, 853, 854, 855] (by decide +kernel) (by decide +kernel)
set_option maxRecDepth 20000 in
theorem gL_law_X6_trace : GoodIn wsL_law (wsV RL 121 RX6 yX6_trace wsX6_trace) := goodIn_app (goodIn_of _ (by decide +kernel)) ggL_law_X6_trace
