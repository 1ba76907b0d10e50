set_option maxRecDepth 20000 in
theorem ggL_law_X6_init : GoodIn wsL_law wsX6_init := goodIn_r _ [8, 9, 10, 11, 12, 13, 14, 15, 16, 17, 18, 19, 20, 21, 22, 23, 24, 25, 26, 27, 28, 29, 30, 31, 32, 33, 34, 35, 36, 37, 38, 39, 40, 41, 42, 43, 44, 45, 46, 47, 48, 49, 50, 51, 52, 53, 54, 55, 56, 57, 58, 59, 60, 61, 62, 63, 64, 65, 66, 67, 68, 69, 70, 71, 72, 73, 74, 75, 76, 77, 78, 79, 80, 670, 671, 672, 673, 674, 675, 676, 677, 697, 698, 699, 700, 701, 702, 703, 704, 705, 706, 707, 708, 709, 710, 711, 712, 713, 714, 715, 716, 717, 718, 719] (by decide +kernel) (by decide +kernel)
set_option maxRecDepth 20000 in
theorem gL_law_X6_init : GoodIn wsL_law (wsX6_init) := ggL_law_X6_init
set_option maxRecDepth 20000 in
theorem ggL_law_X7_init : GoodIn wsL_law wsX7_init := goodIn_r _ [83, 84, 10, 11, 41, 85, 86, 87, 88, 89, 90, 91, 92, 93, 94, 95, 96, 97, 98, 678, 679, 680, 681, 682, 683, 684, 685, 686, 687, 688, 689, 690, 691, 692, 693, 694, 695, 696] (by decide +kernel) (by decide +kernel)
set_option maxRecDepth 20000 in
theorem gL_law_X7_init : GoodIn wsL_law (wsX7_init) := ggL_law_X7_init
set_option maxRecDepth 20000 in
theorem ggL_law_X6_make : GoodIn wsL_law wsX6_make := goodIn_r _ [102, 13, 103, 104, 2, 105, 106, 107, 108, 109, 110, 111, 112, 113, 114, 35, 115, 73, 72, 116, 117, 118, 119, 120, 121, 122, 123, 124, 670, 671, 672, 673, 674, 675, 676, 677, 714, 715] (by decide +kernel) (by decide +kernel)
set_option maxRecDepth 20000 in
theorem gL_law_X6_make : GoodIn wsL_law (wsV RL 13 RX6 yX6_make wsX6_make) := goodIn_app (goodIn_of _ (by decide +kernel)) ggL_law_X6_make
set_option maxRecDepth 20000 in
theorem ggL_law_X7_make : GoodIn wsL_law wsX7_make := goodIn_r _ [128, 87, 129, 130, 5, 131, 132, 133, 134, 135, 136, 137, 138, 139, 140, 141, 142, 143, 144, 85, 86, 678, 679, 680, 681, 682, 683, 684, 685, 686, 687, 688, 689, 690, 691, 692, 693, 694, 695, 696] (by decide +kernel) (by decide +kernel)
set_option maxRecDepth 20000 in
theorem gL_law_X7_make : GoodIn wsL_law (wsV RL 17 RX7 yX7_make wsX7_make) := goodIn_app (goodIn_of _ (by decide +kernel)) ggL_law_X7_make
set_option maxRecDepth 20000 in
theorem ggL_law_X6_period : GoodIn wsL_law wsX6_period := goodIn_r _ [148, 106, 107, 2, 108, 109, 110, 111, 149, 150, 151, 152, 116, 117, 118, 119, 120, 121, 122, 123, 124] (by decide +kernel) (by decide +kernel)
set_option maxRecDepth 20000 in
theorem gL_law_X6_period : GoodIn wsL_law (wsV RL 18 RX6 yX6_period wsX6_period) := goodIn_app (goodIn_of _ (by decide +kernel)) ggL_law_X6_period
set_option maxRecDepth 20000 in
theorem ggL_law_X7_period : GoodIn wsL_law wsX7_period := goodIn_r _ [156, 135, 136, 5, 137, 132, 133, 134, 157, 158, 159, 138, 139, 140] (by decide +kernel) (by decide +kernel)
set_option maxRecDepth 20000 in
theorem gL_law_X7_period : GoodIn wsL_law (wsV RL 22 RX7 yX7_period wsX7_period) := goodIn_app (goodIn_of _ (by decide +kernel)) ggL_law_X7_period
set_option maxRecDepth 20000 in
theorem ggL_law_X6_full : GoodIn wsL_law wsX6_full := goodIn_r _ [163, 109, 110, 2, 111, 149, 150, 151, 152, 116, 117, 118, 119, 120, 121, 122, 123, 124] (by decide +kernel) (by decide +kernel)
set_option maxRecDepth 20000 in
theorem gL_law_X6_full : GoodIn wsL_law (wsV RL 23 RX6 yX6_full wsX6_full) := goodIn_app (goodIn_of _ (by decide +kernel)) ggL_law_X6_full
set_option maxRecDepth 20000 in
theorem ggL_law_X7_full : GoodIn wsL_law wsX7_full := goodIn_r _ [167, 132, 133, 5, 134, 157, 158, 159, 138, 139, 140] (by decide +kernel) (by decide +kernel)
set_option maxRecDepth 20000 in
theorem gL_law_X7_full : GoodIn wsL_law (wsV RL 27 RX7 yX7_full wsX7_full) := goodIn_app (goodIn_of _ (by decide +kernel)) ggL_law_X7_full
set_option maxRecDepth 20000 in
theorem ggL_law_X6_join : GoodIn wsL_law wsX6_join := goodIn_r _ [171, 13, 19, 103, 104, 2, 105, 172, 173, 174, 175, 176, 177, 178, 179, 180, 181, 35, 182, 73, 183, 184, 185, 186, 72, 187, 188, 189, 190, 191, 192, 193, 194, 195, 196, 197, 198, 670, 671, 672, 673, 674, 675, 676, 677, 714, 715, 697, 698, 699, 700, 701] (by decide +kernel) (by decide +kernel)
set_option maxRecDepth 20000 in
theorem gL_law_X6_join : GoodIn wsL_law (wsV RL 28 RX6 yX6_join wsX6_join) := goodIn_app (goodIn_of _ (by decide +kernel)) ggL_law_X6_join
set_option maxRecDepth 20000 in
theorem ggL_law_X7_join : GoodIn wsL_law wsX7_join := goodIn_r _ [202, 85, 87, 129, 130, 5, 131, 132, 133, 134, 203, 204, 205, 206, 207, 208, 209, 210, 211, 212, 213, 86, 141, 142, 143, 144, 678, 679, 680, 681, 682, 683, 684, 685, 686, 687, 688, 689, 690, 691, 692, 693, 694, 695, 696] (by decide +kernel) (by decide +kernel)
set_option maxRecDepth 20000 in
theorem gL_law_X7_join : GoodIn wsL_law (wsV RL 31 RX7 yX7_join wsX7_join) := goodIn_app (goodIn_of _ (by decide +kernel)) ggL_law_X7_join
set_option maxRecDepth 20000 in
theorem ggL_law_X6_load : GoodIn wsL_law wsX6_load := goodIn_r _ [217, 15, 13, 103, 104, 2, 105, 218, 219, 220, 221, 222, 223, 224, 225, 226, 227, 33, 191, 192, 193, 35, 194, 195, 196, 197, 198, 73, 72, 670, 671, 672, 673, 674, 675, 676, 677, 716, 717, 718, 719, 714, 715] (by decide +kernel) (by decide +kernel)
set_option maxRecDepth 20000 in
theorem gL_law_X6_load : GoodIn wsL_law (wsV RL 32 RX6 yX6_load wsX6_load) := goodIn_app (goodIn_of _ (by decide +kernel)) ggL_law_X6_load
set_option maxRecDepth 20000 in
theorem ggL_law_X7_load : GoodIn wsL_law wsX7_load := goodIn_r _ [231, 94, 96, 87, 97, 129, 130, 5, 131, 132, 133, 134, 232, 233, 234, 235, 236, 237, 238, 239, 141, 142, 143, 144, 85, 86, 678, 679, 680, 681, 682, 683, 684, 685, 686, 687, 688, 689, 690, 691, 692, 693, 694, 695, 696] (by decide +kernel) (by decide +kernel)
set_option maxRecDepth 20000 in
theorem gL_law_X7_load : GoodIn wsL_law (wsV RL 35 RX7 yX7_load wsX7_load) := goodIn_app (goodIn_of _ (by decide +kernel)) ggL_law_X7_load
set_option maxRecDepth 20000 in
theorem ggL_law_X6_drop : GoodIn wsL_law wsX6_drop := goodIn_r _ [243, 13, 103, 104, 2, 105, 179, 180, 181, 35, 182, 73, 670, 671, 672, 673, 674, 675, 676, 677, 714, 715] (by decide +kernel) (by decide +kernel)
set_option maxRecDepth 20000 in
theorem gL_law_X6_drop : GoodIn wsL_law (wsV RL 36 RX6 yX6_drop wsX6_drop) := goodIn_app (goodIn_of _ (by decide +kernel)) ggL_law_X6_drop
set_option maxRecDepth 20000 in
theorem ggL_law_X7_drop : GoodIn wsL_law wsX7_drop := goodIn_r _ [247, 85, 129, 130, 5, 131, 132, 133, 134, 678, 679, 680, 681, 682, 683, 684, 685, 686, 687, 688, 689, 690, 691, 692, 693, 694, 695, 696] (by decide +kernel) (by decide +kernel)
set_option maxRecDepth 20000 in
theorem gL_law_X7_drop : GoodIn wsL_law (wsV RL 39 RX7 yX7_drop wsX7_drop) := goodIn_app (goodIn_of _ (by decide +kernel)) ggL_law_X7_drop
set_option maxRecDepth 20000 in
theorem ggL_law_X6_sign : GoodIn wsL_law wsX6_sign := goodIn_r _ [251, 13, 103, 104, 2, 105, 172, 173, 174, 179, 180, 181, 35, 182, 73, 183, 184, 185, 186, 72, 187, 188, 189, 190, 670, 671, 672, 673, 674, 675, 676, 677, 714, 715] (by decide +kernel) (by decide +kernel)
set_option maxRecDepth 20000 in
theorem gL_law_X6_sign : GoodIn wsL_law (wsV RL 40 RX6 yX6_sign wsX6_sign) := goodIn_app (goodIn_of _ (by decide +kernel)) ggL_law_X6_sign
set_option maxRecDepth 20000 in
theorem ggL_law_X7_sign : GoodIn wsL_law wsX7_sign := goodIn_r _ [255, 85, 129, 130, 5, 131, 132, 133, 134, 203, 204, 205, 210, 211, 212, 213, 86, 678, 679, 680, 681, 682, 683, 684, 685, 686, 687, 688, 689, 690, 691, 692, 693, 694, 695, 696] (by decide +kernel) (by decide +kernel)
set_option maxRecDepth 20000 in
theorem gL_law_X7_sign : GoodIn wsL_law (wsV RL 44 RX7 yX7_sign wsX7_sign) := goodIn_app (goodIn_of _ (by decide +kernel)) ggL_law_X7_sign
set_option maxRecDepth 20000 in
theorem ggL_law_X6_like : GoodIn wsL_law wsX6_like := goodIn_r _ [259, 13, 103, 104, 2, 105, 172, 173, 174, 175, 176, 177, 178, 179, 180, 181, 35, 182, 73, 260, 261, 262, 263, 72, 187, 188, 189, 190, 670, 671, 672, 673, 674, 675, 676, 677, 714, 715] (by decide +kernel) (by decide +kernel)
set_option maxRecDepth 20000 in
theorem gL_law_X6_like : GoodIn wsL_law (wsV RL 45 RX6 yX6_like wsX6_like) := goodIn_app (goodIn_of _ (by decide +kernel)) ggL_law_X6_like
set_option maxRecDepth 20000 in
theorem ggL_law_X7_like : GoodIn wsL_law wsX7_like := goodIn_r _ [267, 129, 130, 5, 131, 132, 133, 134, 203, 204, 205, 206, 207, 208, 209, 85, 268, 269, 270, 271, 210, 211, 212, 213, 86, 678, 679, 680, 681, 682, 683, 684, 685, 686, 687, 688, 689, 690, 691, 692, 693, 694, 695, 696] (by decide +kernel) (by decide +kernel)
set_option maxRecDepth 20000 in
theorem gL_law_X7_like : GoodIn wsL_law (wsV RL 48 RX7 yX7_like wsX7_like) := goodIn_app (goodIn_of _ (by decide +kernel)) ggL_law_X7_like
set_option maxRecDepth 20000 in
theorem ggL_law_X6_most : GoodIn wsL_law wsX6_most := goodIn_r _ [275, 13, 276, 277, 197, 278, 279, 280, 281, 103, 104, 2, 105, 175, 176, 177, 178, 179, 180, 181, 35, 182, 73, 260, 261, 262, 263, 72, 187, 188, 189, 190, 670, 671, 672, 673, 674, 675, 676, 677, 714, 715] (by decide +kernel) (by decide +kernel)
set_option maxRecDepth 20000 in
theorem gL_law_X6_most : GoodIn wsL_law (wsV RL 49 RX6 yX6_most wsX6_most) := goodIn_app (goodIn_of _ (by decide +kernel)) ggL_law_X6_most
set_option maxRecDepth 20000 in
theorem ggL_law_X7_most : GoodIn wsL_law wsX7_most := goodIn_r _ [285, 85, 129, 130, 5, 131, 132, 133, 134, 206, 207, 208, 209, 268, 269, 270, 271, 210, 211, 212, 213, 86, 678, 679, 680, 681, 682, 683, 684, 685, 686, 687, 688, 689, 690, 691, 692, 693, 694, 695, 696] (by decide +kernel) (by decide +kernel)
set_option maxRecDepth 20000 in
theorem gL_law_X7_most : GoodIn wsL_law (wsV RL 52 RX7 yX7_most wsX7_most) := goodIn_app (goodIn_of _ (by decide +kernel)) ggL_law_X7_most
set_option maxRecDepth 20000 in
theorem ggL_law_X6_heard : GoodIn wsL_law wsX6_heard := goodIn_r _ [289, 13, 290, 19, 103, 104, 2, 105, 291, 292, 293, 172, 173, 174, 179, 180, 181, 35, 182, 73, 294, 295, 296, 297, 15, 298, 299, 300, 37, 301, 77, 302, 303, 304, 305, 78, 80, 306, 307, 308, 309, 310, 311, 18, 312, 46, 43, 42, 44, 45, 260, 261, 262, 263, 72, 187, 188, 189, 190, 670, 671, 672, 673, 674, 675, 676, 677, 714, 715, 697, 698, 699, 700, 701, 716, 717, 718, 719] (by decide +kernel) (by decide +kernel)
set_option maxRecDepth 20000 in
theorem gL_law_X6_heard : GoodIn wsL_law (wsV RL 53 RX6 yX6_heard wsX6_heard) := goodIn_app (goodIn_of _ (by decide +kernel)) ggL_law_X6_heard
set_option maxRecDepth 20000 in
theorem ggL_law_X7_heard : GoodIn wsL_law wsX7_heard := goodIn_r _ [316, 85, 317, 129, 130, 5, 131, 132, 133, 134, 203, 204, 205, 318, 319, 320, 321, 322, 323, 324, 325, 94, 96, 97, 210, 211, 212, 213, 86, 678, 679, 680, 681, 682, 683, 684, 685, 686, 687, 688, 689, 690, 691, 692, 693, 694, 695, 696] (by decide +kernel) (by decide +kernel)
set_option maxRecDepth 20000 in
theorem gL_law_X7_heard : GoodIn wsL_law (wsV RL 57 RX7 yX7_heard wsX7_heard) := goodIn_app (goodIn_of _ (by decide +kernel)) ggL_law_X7_heard
set_option maxRecDepth 20000 in
theorem ggL_law_X6_search : GoodIn wsL_law wsX6_search := goodIn_r _ [329, 23, 330, 331, 332, 2, 333, 13, 19, 103, 104, 105, 291, 292, 293, 179, 180, 181, 35, 182, 73, 294, 295, 296, 297, 15, 298, 299, 300, 37, 301, 77, 302, 303, 304, 305, 78, 80, 306, 307, 308, 334, 335, 336, 22, 337, 50, 51, 52, 309, 310, 311, 18, 312, 46, 43, 42, 44, 45, 260, 261, 262, 263, 72, 187, 188, 189, 190, 338, 339, 340, 341, 53, 54, 670, 671, 672, 673, 674, 675, 676, 677, 702, 703, 704, 705, 714, 715, 697, 698, 699, 700, 701, 716, 717, 718, 719] (by decide +kernel) (by decide +kernel)
set_option maxRecDepth 20000 in
theorem gL_law_X6_search : GoodIn wsL_law (wsV RL 58 RX6 yX6_search wsX6_search) := goodIn_app (goodIn_of _ (by decide +kernel)) ggL_law_X6_search
set_option maxRecDepth 20000 in
theorem ggL_law_X7_search : GoodIn wsL_law wsX7_search := goodIn_r _ [345, 346, 347, 348, 5, 349, 85, 129, 130, 131, 132, 133, 134, 350, 351, 352, 353, 354, 355, 356, 318, 319, 320, 321, 322, 323, 324, 325, 94, 96, 97, 210, 211, 212, 213, 86, 678, 679, 680, 681, 682, 683, 684, 685, 686, 687, 688, 689, 690, 691, 692, 693, 694, 695, 696] (by decide +kernel) (by decide +kernel)
set_option maxRecDepth 20000 in
theorem gL_law_X7_search : GoodIn wsL_law (wsV RL 61 RX7 yX7_search wsX7_search) := goodIn_app (goodIn_of _ (by decide +kernel)) ggL_law_X7_search
set_option maxRecDepth 20000 in
theorem ggL_law_X6_sure : GoodIn wsL_law wsX6_sure := goodIn_r _ [360, 23, 361, 32, 330, 331, 332, 2, 333, 13, 19, 103, 104, 105, 291, 292, 293, 179, 180, 181, 35, 182, 73, 294, 295, 296, 297, 15, 298, 299, 300, 37, 301, 77, 302, 303, 304, 305, 78, 80, 306, 307, 308, 334, 335, 336, 22, 337, 50, 51, 52, 309, 310, 311, 18, 312, 46, 43, 42, 44, 45, 260, 261, 262, 263, 72, 187, 188, 189, 190, 338, 339, 340, 341, 53, 54, 670, 671, 672, 673, 674, 675, 676, 677, 702, 703, 704, 705, 714, 715, 697, 698, 699, 700, 701, 716, 717, 718, 719] (by decide +kernel) (by decide +kernel)
set_option maxRecDepth 20000 in
theorem gL_law_X6_sure : GoodIn wsL_law (wsV RL 62 RX6 yX6_sure wsX6_sure) := goodIn_app (goodIn_of _ (by decide +kernel)) ggL_law_X6_sure
set_option maxRecDepth 20000 in
theorem ggL_law_X7_sure : GoodIn wsL_law wsX7_sure := goodIn_r _ [365, 355, 366, 356, 88, 346, 347, 348, 5, 349, 85, 129, 130, 131, 132, 133, 134, 350, 351, 352, 353, 354, 318, 319, 320, 321, 322, 323, 324, 325, 94, 96, 97, 210, 211, 212, 213, 86, 678, 679, 680, 681, 682, 683, 684, 685, 686, 687, 688, 689, 690, 691, 692, 693, 694, 695, 696] (by decide +kernel) (by decide +kernel)
set_option maxRecDepth 20000 in
theorem gL_law_X7_sure : GoodIn wsL_law (wsV RL 65 RX7 yX7_sure wsX7_sure) := goodIn_app (goodIn_of _ (by decide +kernel)) ggL_law_X7_sure
set_option maxRecDepth 20000 in
theorem ggL_law_X6_power : GoodIn wsL_law wsX6_power := goodIn_r _ [370, 23, 371, 330, 331, 332, 2, 333, 13, 19, 103, 104, 105, 291, 292, 293, 179, 180, 181, 35, 182, 73, 294, 295, 296, 297, 15, 298, 299, 300, 37, 301, 77, 302, 303, 304, 305, 78, 80, 306, 307, 308, 334, 335, 336, 22, 337, 50, 51, 52, 309, 310, 311, 18, 312, 46, 43, 42, 44, 45, 260, 261, 262, 263, 72, 187, 188, 189, 190, 338, 339, 340, 341, 53, 54, 670, 671, 672, 673, 674, 675, 676, 677, 702, 703, 704, 705, 714, 715, 697, 698, 699, 700, 701, 716, 717, 718, 719] (by decide +kernel) (by decide +kernel)
set_option maxRecDepth 20000 in
theorem gL_law_X6_power : GoodIn wsL_law (wsV RL 66 RX6 yX6_power wsX6_power) := goodIn_app (goodIn_of _ (by decide +kernel)) ggL_law_X6_power
set_option maxRecDepth 20000 in
theorem ggL_law_X7_power : GoodIn wsL_law wsX7_power := goodIn_r _ [375, 376, 355, 346, 347, 348, 5, 349, 85, 129, 130, 131, 132, 133, 134, 350, 351, 352, 353, 354, 356, 318, 319, 320, 321, 322, 323, 324, 325, 94, 96, 97, 210, 211, 212, 213, 86, 678, 679, 680, 681, 682, 683, 684, 685, 686, 687, 688, 689, 690, 691, 692, 693, 694, 695, 696] (by decide +kernel) (by decide +kernel)
set_option maxRecDepth 20000 in
theorem gL_law_X7_power : GoodIn wsL_law (wsV RL 70 RX7 yX7_power wsX7_power) := goodIn_app (goodIn_of _ (by decide +kernel)) ggL_law_X7_power
set_option maxRecDepth 20000 in
theorem ggL_law_X6_doubt : GoodIn wsL_law wsX6_doubt := goodIn_r _ [380, 32, 670, 671, 672, 673, 674, 675, 676, 677] (by decide +kernel) (by decide +kernel)
set_option maxRecDepth 20000 in
theorem gL_law_X6_doubt : GoodIn wsL_law (wsV RL 71 RX6 yX6_doubt wsX6_doubt) := goodIn_app (goodIn_of _ (by decide +kernel)) ggL_law_X6_doubt
set_option maxRecDepth 20000 in
theorem ggL_law_X7_doubt : GoodIn wsL_law wsX7_doubt := goodIn_r _ [384, 88, 132, 133, 5, 134, 678, 679, 680, 681, 682, 683, 684, 685, 686, 687, 688, 689, 690, 691, 692, 693, 694, 695, 696] (by decide +kernel) (by decide +kernel)
set_option maxRecDepth 20000 in
theorem gL_law_X7_doubt : GoodIn wsL_law (wsV RL 74 RX7 yX7_doubt wsX7_doubt) := goodIn_app (goodIn_of _ (by decide +kernel)) ggL_law_X7_doubt
set_option maxRecDepth 20000 in
theorem ggL_law_X6_peel : GoodIn wsL_law wsX6_peel := goodIn_r _ [388, 27, 19, 291, 292, 2, 293, 221, 222, 223, 389, 390, 391, 392, 13, 294, 295, 296, 297, 15, 298, 299, 300, 37, 301, 77, 302, 303, 304, 305, 78, 80, 306, 307, 308, 393, 394, 395, 396, 276, 277, 197, 278, 260, 261, 262, 35, 263, 73, 72, 187, 188, 189, 190, 397, 398, 399, 400, 401, 402, 403, 404, 405, 406, 407, 184, 185, 186, 408, 409, 410, 26, 411, 61, 58, 59, 60, 412, 413, 414, 18, 415, 46, 42, 670, 671, 672, 673, 674, 675, 676, 677, 706, 707, 708, 709, 710, 714, 715, 697, 698, 699, 700, 701, 716, 717, 718, 719] (by decide +kernel) (by decide +kernel)
set_option maxRecDepth 20000 in
theorem gL_law_X6_peel : GoodIn wsL_law (wsV RL 75 RX6 yX6_peel wsX6_peel) := goodIn_app (goodIn_of _ (by decide +kernel)) ggL_law_X6_peel
set_option maxRecDepth 20000 in
theorem ggL_law_X7_peel : GoodIn wsL_law wsX7_peel := goodIn_r _ [419, 85, 90, 420, 421, 132, 133, 5, 134, 322, 323, 324, 325, 94, 96, 97, 422, 423, 424, 425, 89, 210, 211, 212, 213, 86, 678, 679, 680, 681, 682, 683, 684, 685, 686, 687, 688, 689, 690, 691, 692, 693, 694, 695, 696] (by decide +kernel) (by decide +kernel)
set_option maxRecDepth 20000 in
theorem gL_law_X7_peel : GoodIn wsL_law (wsV RL 78 RX7 yX7_peel wsX7_peel) := goodIn_app (goodIn_of _ (by decide +kernel)) ggL_law_X7_peel
set_option maxRecDepth 20000 in
theorem ggL_law_X6_peeled : GoodIn wsL_law wsX6_peeled := goodIn_r _ [429, 27, 430, 670, 671, 672, 673, 674, 675, 676, 677, 706, 707, 708, 709, 710] (by decide +kernel) (by decide +kernel)
set_option maxRecDepth 20000 in
theorem gL_law_X6_peeled : GoodIn wsL_law (wsV RL 79 RX6 yX6_peeled wsX6_peeled) := goodIn_app (goodIn_of _ (by decide +kernel)) ggL_law_X6_peeled
set_option maxRecDepth 20000 in
theorem ggL_law_X7_peeled : GoodIn wsL_law wsX7_peeled := goodIn_r _ [434, 420, 89, 435, 132, 133, 5, 134, 678, 679, 680, 681, 682, 683, 684, 685, 686, 687, 688, 689, 690, 691, 692, 693, 694, 695, 696] (by decide +kernel) (by decide +kernel)
set_option maxRecDepth 20000 in
theorem gL_law_X7_peeled : GoodIn wsL_law (wsV RL 82 RX7 yX7_peeled wsX7_peeled) := goodIn_app (goodIn_of _ (by decide +kernel)) ggL_law_X7_peeled
set_option maxRecDepth 20000 in
theorem ggL_law_X6_noise : GoodIn wsL_law wsX6_noise := goodIn_r _ [439, 27, 670, 671, 672, 673, 674, 675, 676, 677, 706, 707, 708, 709, 710] (by decide +kernel) (by decide +kernel)
set_option maxRecDepth 20000 in
theorem gL_law_X6_noise : GoodIn wsL_law (wsV RL 83 RX6 yX6_noise wsX6_noise) := goodIn_app (goodIn_of _ (by decide +kernel)) ggL_law_X6_noise
set_option maxRecDepth 20000 in
theorem ggL_law_X7_noise : GoodIn wsL_law wsX7_noise := goodIn_r _ [443, 421, 678, 679, 680, 681, 682, 683, 684, 685, 686, 687, 688, 689, 690, 691, 692, 693, 694, 695, 696] (by decide +kernel) (by decide +kernel)
set_option maxRecDepth 20000 in
theorem gL_law_X7_noise : GoodIn wsL_law (wsV RL 87 RX7 yX7_noise wsX7_noise) := goodIn_app (goodIn_of _ (by decide +kernel)) ggL_law_X7_noise
set_option maxRecDepth 20000 in
theorem ggL_law_X6_follow : GoodIn wsL_law wsX6_follow := goodIn_r _ [447, 13, 103, 104, 2, 105, 291, 292, 293, 172, 173, 174, 294, 295, 296, 297, 19, 15, 298, 299, 300, 37, 301, 77, 302, 303, 304, 305, 78, 80, 306, 307, 308, 448, 449, 450, 451, 276, 277, 197, 278, 260, 261, 262, 35, 263, 73, 72, 187, 188, 189, 190, 670, 671, 672, 673, 674, 675, 676, 677, 714, 715, 697, 698, 699, 700, 701, 716, 717, 718, 719] (by decide +kernel) (by decide +kernel)
set_option maxRecDepth 20000 in
theorem gL_law_X6_follow : GoodIn wsL_law (wsV RL 88 RX6 yX6_follow wsX6_follow) := goodIn_app (goodIn_of _ (by decide +kernel)) ggL_law_X6_follow
set_option maxRecDepth 20000 in
theorem ggL_law_X7_follow : GoodIn wsL_law wsX7_follow := goodIn_r _ [455, 85, 129, 130, 5, 131, 132, 133, 134, 203, 204, 205, 456, 457, 458, 459, 210, 211, 212, 213, 86, 322, 323, 324, 325, 94, 96, 97, 678, 679, 680, 681, 682, 683, 684, 685, 686, 687, 688, 689, 690, 691, 692, 693, 694, 695, 696] (by decide +kernel) (by decide +kernel)
set_option maxRecDepth 20000 in
theorem gL_law_X7_follow : GoodIn wsL_law (wsV RL 91 RX7 yX7_follow wsX7_follow) := goodIn_app (goodIn_of _ (by decide +kernel)) ggL_law_X7_follow
set_option maxRecDepth 20000 in
theorem ggL_law_X6_length : GoodIn wsL_law wsX6_length := goodIn_r _ [463, 31, 464, 465, 466, 30, 467, 68, 66, 468, 469, 470, 471, 67, 670, 671, 672, 673, 674, 675, 676, 677, 711, 712, 713] (by decide +kernel) (by decide +kernel)
set_option maxRecDepth 20000 in
theorem gL_law_X6_length : GoodIn wsL_law (wsV RL 92 RX6 yX6_length wsX6_length) := goodIn_app (goodIn_of _ (by decide +kernel)) ggL_law_X6_length
set_option maxRecDepth 20000 in
theorem ggL_law_X7_length : GoodIn wsL_law wsX7_length := goodIn_r _ [475, 476, 91, 92, 132, 133, 5, 134, 477, 478, 479, 678, 679, 680, 681, 682, 683, 684, 685, 686, 687, 688, 689, 690, 691, 692, 693, 694, 695, 696] (by decide +kernel) (by decide +kernel)
set_option maxRecDepth 20000 in
theorem gL_law_X7_length : GoodIn wsL_law (wsV RL 95 RX7 yX7_length wsX7_length) := goodIn_app (goodIn_of _ (by decide +kernel)) ggL_law_X7_length
set_option maxRecDepth 20000 in
theorem ggL_law_X6_reset : GoodIn wsL_law wsX6_reset := goodIn_r _ [483, 31, 670, 671, 672, 673, 674, 675, 676, 677, 711, 712, 713] (by decide +kernel) (by decide +kernel)
set_option maxRecDepth 20000 in
theorem gL_law_X6_reset : GoodIn wsL_law (wsV RL 96 RX6 yX6_reset wsX6_reset) := goodIn_app (goodIn_of _ (by decide +kernel)) ggL_law_X6_reset
set_option maxRecDepth 20000 in
theorem ggL_law_X7_reset : GoodIn wsL_law wsX7_reset := goodIn_r _ [487, 476, 678, 679, 680, 681, 682, 683, 684, 685, 686, 687, 688, 689, 690, 691, 692, 693, 694, 695, 696] (by decide +kernel) (by decide +kernel)
set_option maxRecDepth 20000 in
theorem gL_law_X7_reset : GoodIn wsL_law (wsV RL 100 RX7 yX7_reset wsX7_reset) := goodIn_app (goodIn_of _ (by decide +kernel)) ggL_law_X7_reset
set_option maxRecDepth 20000 in
theorem ggL_law_X6_range : GoodIn wsL_law wsX6_range := goodIn_r _ [491, 31, 492, 493, 494, 30, 495, 68, 66, 496, 497, 498, 499, 67, 670, 671, 672, 673, 674, 675, 676, 677, 711, 712, 713] (by decide +kernel) (by decide +kernel)
set_option maxRecDepth 20000 in
theorem gL_law_X6_range : GoodIn wsL_law (wsV RL 101 RX6 yX6_range wsX6_range) := goodIn_app (goodIn_of _ (by decide +kernel)) ggL_law_X6_range
set_option maxRecDepth 20000 in
theorem ggL_law_X7_range : GoodIn wsL_law wsX7_range := goodIn_r _ [503, 476, 91, 92, 678, 679, 680, 681, 682, 683, 684, 685, 686, 687, 688, 689, 690, 691, 692, 693, 694, 695, 696] (by decide +kernel) (by decide +kernel)
set_option maxRecDepth 20000 in
theorem gL_law_X7_range : GoodIn wsL_law (wsV RL 104 RX7 yX7_range wsX7_range) := goodIn_app (goodIn_of _ (by decide +kernel)) ggL_law_X7_range
set_option maxRecDepth 20000 in
theorem ggL_law_X6_mend : GoodIn wsL_law wsX6_mend := goodIn_r _ [507, 31, 508, 509, 510, 30, 511, 68, 496, 497, 498, 499, 66, 67, 670, 671, 672, 673, 674, 675, 676, 677, 711, 712, 713] (by decide +kernel) (by decide +kernel)
set_option maxRecDepth 20000 in
theorem gL_law_X6_mend : GoodIn wsL_law (wsV RL 105 RX6 yX6_mend wsX6_mend) := goodIn_app (goodIn_of _ (by decide +kernel)) ggL_law_X6_mend
set_option maxRecDepth 20000 in
theorem ggL_law_X7_mend : GoodIn wsL_law wsX7_mend := goodIn_r _ [515, 476, 91, 92, 132, 133, 5, 134, 678, 679, 680, 681, 682, 683, 684, 685, 686, 687, 688, 689, 690, 691, 692, 693, 694, 695, 696] (by decide +kernel) (by decide +kernel)
set_option maxRecDepth 20000 in
theorem gL_law_X7_mend : GoodIn wsL_law (wsV RL 108 RX7 yX7_mend wsX7_mend) := goodIn_app (goodIn_of _ (by decide +kernel)) ggL_law_X7_mend
set_option maxRecDepth 20000 in
theorem ggL_law_X6_hits : GoodIn wsL_law wsX6_hits := goodIn_r _ [519, 520, 521, 2, 522, 523, 524, 525, 526] (by decide +kernel) (by decide +kernel)
set_option maxRecDepth 20000 in
theorem gL_law_X6_hits : GoodIn wsL_law (wsV RL 109 RX6 yX6_hits wsX6_hits) := goodIn_app (goodIn_of _ (by decide +kernel)) ggL_law_X6_hits
set_option maxRecDepth 20000 in
theorem ggL_law_X7_hits : GoodIn wsL_law wsX7_hits := goodIn_r _ [530, 531, 532, 5, 533, 534, 535, 536, 132, 133, 134, 537, 538, 539] (by decide +kernel) (by decide +kernel)
set_option maxRecDepth 20000 in
theorem gL_law_X7_hits : GoodIn wsL_law (wsV RL 112 RX7 yX7_hits wsX7_hits) := goodIn_app (goodIn_of _ (by decide +kernel)) ggL_law_X7_hits
set_option maxRecDepth 20000 in
theorem ggL_law_X6_worst : GoodIn wsL_law wsX6_worst := goodIn_r _ [543, 279, 280, 197, 281, 520, 521, 2, 522, 523, 524, 525, 526] (by decide +kernel) (by decide +kernel)
set_option maxRecDepth 20000 in
theorem gL_law_X6_worst : GoodIn wsL_law (wsV RL 113 RX6 yX6_worst wsX6_worst) := goodIn_app (goodIn_of _ (by decide +kernel)) ggL_law_X6_worst
set_option maxRecDepth 20000 in
theorem ggL_law_X7_worst : GoodIn wsL_law wsX7_worst := goodIn_r _ [547, 531, 532, 5, 533, 534, 535, 536, 132, 133, 134, 537, 538, 539] (by decide +kernel) (by decide +kernel)
set_option maxRecDepth 20000 in
theorem gL_law_X7_worst : GoodIn wsL_law (wsV RL 116 RX7 yX7_worst wsX7_worst) := goodIn_app (goodIn_of _ (by decide +kernel)) ggL_law_X7_worst
set_option maxRecDepth 20000 in
theorem ggL_law_X6_reel : GoodIn wsL_law wsX6_reel := goodIn_r _ [551, 15, 218, 219, 2, 220, 552, 553, 554, 224, 225, 226, 227, 33, 555, 556, 557, 37, 558, 78, 79, 559, 196, 197, 198, 560, 280, 281, 80, 77, 670, 671, 672, 673, 674, 675, 676, 677, 716, 717, 718, 719] (by decide +kernel) (by decide +kernel)
set_option maxRecDepth 20000 in
theorem gL_law_X6_reel : GoodIn wsL_law (wsV RL 117 RX6 yX6_reel wsX6_reel) := goodIn_app (goodIn_of _ (by decide +kernel)) ggL_law_X6_reel
set_option maxRecDepth 20000 in
theorem ggL_law_X7_reel : GoodIn wsL_law wsX7_reel := goodIn_r _ [564, 94, 95, 96, 97, 232, 233, 5, 234, 132, 133, 134, 235, 236, 237, 238, 239, 678, 679, 680, 681, 682, 683, 684, 685, 686, 687, 688, 689, 690, 691, 692, 693, 694, 695, 696] (by decide +kernel) (by decide +kernel)
set_option maxRecDepth 20000 in
theorem gL_law_X7_reel : GoodIn wsL_law (wsV RL 120 RX7 yX7_reel wsX7_reel) := goodIn_app (goodIn_of _ (by decide +kernel)) ggL_law_X7_reel
set_option maxRecDepth 20000 in
theorem ggL_law_X6_lose : GoodIn wsL_law wsX6_lose := goodIn_r _ [568, 15, 218, 219, 2, 220, 224, 225, 226, 227, 33, 670, 671, 672, 673, 674, 675, 676, 677, 716, 717, 718, 719] (by decide +kernel) (by decide +kernel)
set_option maxRecDepth 20000 in
theorem gL_law_X6_lose : GoodIn wsL_law (wsV RL 121 RX6 yX6_lose wsX6_lose) := goodIn_app (goodIn_of _ (by decide +kernel)) ggL_law_X6_lose
set_option maxRecDepth 20000 in
theorem ggL_law_X7_lose : GoodIn wsL_law wsX7_lose := goodIn_r _ [572, 94, 96, 232, 233, 5, 234, 132, 133, 134, 235, 236, 237, 238, 239, 678, 679, 680, 681, 682, 683, 684, 685, 686, 687, 688, 689, 690, 691, 692, 693, 694, 695, 696] (by decide +kernel) (by decide +kernel)
set_option maxRecDepth 20000 in
theorem gL_law_X7_lose : GoodIn wsL_law (wsV RL 124 RX7 yX7_lose wsX7_lose) := goodIn_app (goodIn_of _ (by decide +kernel)) ggL_law_X7_lose
set_option maxRecDepth 20000 in
theorem ggL_law_X6_put : GoodIn wsL_law wsX6_put := goodIn_r _ [576, 15, 218, 219, 2, 220, 552, 553, 554, 577, 578, 579, 37, 580, 78, 79, 302, 303, 304, 305, 80, 224, 225, 226, 227, 33, 581, 582, 583, 584, 77, 585, 586, 587, 588, 670, 671, 672, 673, 674, 675, 676, 677, 716, 717, 718, 719] (by decide +kernel) (by decide +kernel)
set_option maxRecDepth 20000 in
theorem gL_law_X6_put : GoodIn wsL_law (wsV RL 125 RX6 yX6_put wsX6_put) := goodIn_app (goodIn_of _ (by decide +kernel)) ggL_law_X6_put
set_option maxRecDepth 20000 in
theorem ggL_law_X7_put : GoodIn wsL_law wsX7_put := goodIn_r _ [592, 97, 232, 233, 5, 234, 132, 133, 134, 593, 594, 595, 596, 94, 95, 96, 235, 236, 237, 238, 239, 597, 598, 599, 678, 679, 680, 681, 682, 683, 684, 685, 686, 687, 688, 689, 690, 691, 692, 693, 694, 695, 696] (by decide +kernel) (by decide +kernel)
set_option maxRecDepth 20000 in
theorem gL_law_X7_put : GoodIn wsL_law (wsV RL 128 RX7 yX7_put wsX7_put) := goodIn_app (goodIn_of _ (by decide +kernel)) ggL_law_X7_put
set_option maxRecDepth 20000 in
theorem ggL_law_X6_get : GoodIn wsL_law wsX6_get := goodIn_r _ [603, 290, 15, 218, 219, 2, 220, 552, 553, 554, 577, 578, 579, 37, 580, 78, 79, 302, 303, 304, 305, 80, 224, 225, 226, 227, 33, 298, 299, 300, 301, 77, 670, 671, 672, 673, 674, 675, 676, 677, 716, 717, 718, 719] (by decide +kernel) (by decide +kernel)
set_option maxRecDepth 20000 in
theorem gL_law_X6_get : GoodIn wsL_law (wsV RL 129 RX6 yX6_get wsX6_get) := goodIn_app (goodIn_of _ (by decide +kernel)) ggL_law_X6_get
set_option maxRecDepth 20000 in
theorem ggL_law_X7_get : GoodIn wsL_law wsX7_get := goodIn_r _ [607, 317, 239, 97, 232, 233, 5, 234, 132, 133, 134, 593, 594, 595, 596, 94, 95, 96, 678, 679, 680, 681, 682, 683, 684, 685, 686, 687, 688, 689, 690, 691, 692, 693, 694, 695, 696] (by decide +kernel) (by decide +kernel)
set_option maxRecDepth 20000 in
theorem gL_law_X7_get : GoodIn wsL_law (wsV RL 132 RX7 yX7_get wsX7_get) := goodIn_app (goodIn_of _ (by decide +kernel)) ggL_law_X7_get
set_option maxRecDepth 20000 in
theorem ggL_law_X6_copy : GoodIn wsL_law wsX6_copy := goodIn_r _ [611, 15, 612, 613, 614, 615, 218, 219, 2, 220, 224, 225, 226, 227, 33, 616, 617, 618, 37, 619, 80, 670, 671, 672, 673, 674, 675, 676, 677, 716, 717, 718, 719] (by decide +kernel) (by decide +kernel)
set_option maxRecDepth 20000 in
theorem gL_law_X6_copy : GoodIn wsL_law (wsV RL 133 RX6 yX6_copy wsX6_copy) := goodIn_app (goodIn_of _ (by decide +kernel)) ggL_law_X6_copy
set_option maxRecDepth 20000 in
theorem ggL_law_X7_copy : GoodIn wsL_law wsX7_copy := goodIn_r _ [623, 94, 95, 96, 98, 97, 232, 233, 5, 234, 132, 133, 134, 235, 236, 237, 238, 239, 678, 679, 680, 681, 682, 683, 684, 685, 686, 687, 688, 689, 690, 691, 692, 693, 694, 695, 696] (by decide +kernel) (by decide +kernel)
set_option maxRecDepth 20000 in
theorem gL_law_X7_copy : GoodIn wsL_law (wsV RL 136 RX7 yX7_copy wsX7_copy) := goodIn_app (goodIn_of _ (by decide +kernel)) ggL_law_X7_copy
set_option maxRecDepth 20000 in
theorem ggL_law_X6_add : GoodIn wsL_law wsX6_add := goodIn_r _ [627, 15, 13, 628, 196, 197, 198, 103, 104, 2, 105, 218, 219, 220, 172, 173, 174, 224, 225, 226, 227, 33, 179, 180, 181, 35, 182, 73, 183, 184, 185, 186, 72, 187, 188, 189, 190, 298, 299, 300, 37, 301, 77, 302, 303, 304, 305, 78, 80, 581, 582, 583, 584, 585, 586, 587, 588, 79, 670, 671, 672, 673, 674, 675, 676, 677, 716, 717, 718, 719, 714, 715] (by decide +kernel) (by decide +kernel)
set_option maxRecDepth 20000 in
theorem gL_law_X6_add : GoodIn wsL_law (wsV RL 137 RX6 yX6_add wsX6_add) := goodIn_app (goodIn_of _ (by decide +kernel)) ggL_law_X6_add
set_option maxRecDepth 20000 in
theorem ggL_law_X7_add : GoodIn wsL_law wsX7_add := goodIn_r _ [632, 94, 85, 96, 97, 95, 129, 130, 5, 131, 132, 133, 134, 232, 233, 234, 203, 204, 205, 235, 236, 237, 238, 239, 210, 211, 212, 213, 86, 597, 598, 599, 678, 679, 680, 681, 682, 683, 684, 685, 686, 687, 688, 689, 690, 691, 692, 693, 694, 695, 696] (by decide +kernel) (by decide +kernel)
set_option maxRecDepth 20000 in
theorem gL_law_X7_add : GoodIn wsL_law (wsV RL 140 RX7 yX7_add wsX7_add) := goodIn_app (goodIn_of _ (by decide +kernel)) ggL_law_X7_add
set_option maxRecDepth 20000 in
theorem ggL_law_X6_count : GoodIn wsL_law wsX6_count := goodIn_r _ [636, 31, 32, 33, 27, 637, 638, 639, 2, 640, 13, 179, 180, 181, 35, 182, 73, 670, 671, 672, 673, 674, 675, 676, 677, 711, 712, 713, 706, 707, 708, 709, 710, 714, 715] (by decide +kernel) (by decide +kernel)
set_option maxRecDepth 20000 in
theorem gL_law_X6_count : GoodIn wsL_law (wsV RL 141 RX6 yX6_count wsX6_count) := goodIn_app (goodIn_of _ (by decide +kernel)) ggL_law_X6_count
set_option maxRecDepth 20000 in
theorem ggL_law_X7_count : GoodIn wsL_law wsX7_count := goodIn_r _ [644, 476, 88, 239, 420, 645, 646, 647, 5, 648, 85, 678, 679, 680, 681, 682, 683, 684, 685, 686, 687, 688, 689, 690, 691, 692, 693, 694, 695, 696] (by decide +kernel) (by decide +kernel)
set_option maxRecDepth 20000 in
theorem gL_law_X7_count : GoodIn wsL_law (wsV RL 144 RX7 yX7_count wsX7_count) := goodIn_app (goodIn_of _ (by decide +kernel)) ggL_law_X7_count
set_option maxRecDepth 20000 in
theorem ggL_law_X6_digest : GoodIn wsL_law wsX6_digest := goodIn_r _ [652, 653, 31, 32, 27, 13, 637, 638, 639, 2, 640, 179, 180, 181, 35, 182, 73, 654, 655, 656, 657, 658, 659, 660, 661, 72, 492, 493, 494, 30, 495, 68, 66, 496, 497, 498, 499, 67, 670, 671, 672, 673, 674, 675, 676, 677, 711, 712, 713, 706, 707, 708, 709, 710, 714, 715] (by decide +kernel) (by decide +kernel)
set_option maxRecDepth 20000 in
theorem gL_law_X6_digest : GoodIn wsL_law (wsV RL 145 RX6 yX6_digest wsX6_digest) := goodIn_app (goodIn_of _ (by decide +kernel)) ggL_law_X6_digest
set_option maxRecDepth 20000 in
theorem ggL_law_X7_digest : GoodIn wsL_law wsX7_digest := goodIn_r _ [665, 666, 667, 85, 421, 668, 642, 643, 5, 644, 476, 88, 239, 420, 645, 646, 647, 648, 210, 211, 212, 213, 86, 669, 501, 502, 503, 91, 92, 678, 679, 680, 681, 682, 683, 684, 685, 686, 687, 688, 689, 690, 691, 692, 693, 694, 695, 696] (by decide +kernel) (by decide +kernel)
set_option maxRecDepth 20000 in
theorem gL_law_X7_digest : GoodIn wsL_law (wsV RL 148 RX7 yX7_digest wsX7_digest) := goodIn_app (goodIn_of _ (by decide +kernel)) ggL_law_X7_digest
