set_option maxRecDepth 20000 in
theorem ggL_law_X4_init : GoodIn wsL_law wsX4_init := goodIn_r _ [8, 9, 10, 11, 12, 13, 14, 15, 16, 17, 18, 19, 20, 21, 22, 23, 24, 25, 26, 27, 28, 29, 30, 31, 32, 33, 34, 35, 36, 37, 38, 39, 40, 41, 42, 43, 44, 45, 46, 47, 48, 49, 50, 51, 52, 53, 54, 55, 56, 57, 58, 59, 60, 61, 62, 63, 64, 889, 890, 891, 861, 862, 863, 864, 865, 866, 892, 893, 894, 895, 896, 897, 898, 899, 900, 901, 902, 903, 904, 905, 906, 907, 908, 909, 910, 911] rfl (by decide +kernel)
set_option maxRecDepth 20000 in
theorem gL_law_X4_init : GoodIn wsL_law (wsX4_init) := ggL_law_X4_init
set_option maxRecDepth 20000 in
theorem ggL_law_X5_init : GoodIn wsL_law wsX5_init := goodIn_r _ [67, 68, 10, 11, 35, 69, 70, 71, 72, 73, 74, 75, 76, 77, 78, 79, 80, 81, 82, 83, 84, 85, 63, 86, 867, 868, 869, 870, 871, 872, 873, 874, 875, 876, 877, 878, 879, 880, 881, 882, 883, 884, 885, 886, 887, 888] rfl (by decide +kernel)
set_option maxRecDepth 20000 in
theorem gL_law_X5_init : GoodIn wsL_law (wsX5_init) := ggL_law_X5_init
set_option maxRecDepth 20000 in
theorem ggL_law_X4_say : GoodIn wsL_law wsX4_say := goodIn_r _ [90, 15, 91, 92, 93, 14, 94, 95, 34, 861, 862, 863, 864, 865, 866, 889, 890, 891] rfl (by decide +kernel)
set_option maxRecDepth 20000 in
theorem gL_law_X4_say : GoodIn wsL_law (wsV RL 13 RX4 yX4_say wsX4_say) := goodIn_app (goodIn_of _ (by decide +kernel)) ggL_law_X4_say
set_option maxRecDepth 20000 in
theorem ggL_law_X5_say : GoodIn wsL_law wsX5_say := goodIn_r _ [99, 100, 69, 101, 102, 5, 103, 867, 868, 869, 870, 871, 872, 873, 874, 875, 876, 877, 878, 879, 880, 881, 882, 883, 884, 885, 886, 887, 888] rfl (by decide +kernel)
set_option maxRecDepth 20000 in
theorem gL_law_X5_say : GoodIn wsL_law (wsV RL 17 RX5 yX5_say wsX5_say) := goodIn_app (goodIn_of _ (by decide +kernel)) ggL_law_X5_say
set_option maxRecDepth 20000 in
theorem ggL_law_X4_wipe : GoodIn wsL_law wsX4_wipe := goodIn_r _ [107, 15, 108, 109, 110, 14, 111, 95, 861, 862, 863, 864, 865, 866, 889, 890, 891] rfl (by decide +kernel)
set_option maxRecDepth 20000 in
theorem gL_law_X4_wipe : GoodIn wsL_law (wsV RL 18 RX4 yX4_wipe wsX4_wipe) := goodIn_app (goodIn_of _ (by decide +kernel)) ggL_law_X4_wipe
set_option maxRecDepth 20000 in
theorem ggL_law_X5_wipe : GoodIn wsL_law wsX5_wipe := goodIn_r _ [115, 100, 867, 868, 869, 870, 871, 872, 873, 874, 875, 876, 877, 878, 879, 880, 881, 882, 883, 884, 885, 886, 887, 888] rfl (by decide +kernel)
set_option maxRecDepth 20000 in
theorem gL_law_X5_wipe : GoodIn wsL_law (wsV RL 22 RX5 yX5_wipe wsX5_wipe) := goodIn_app (goodIn_of _ (by decide +kernel)) ggL_law_X5_wipe
set_option maxRecDepth 20000 in
theorem ggL_law_X4_fault : GoodIn wsL_law wsX4_fault := goodIn_r _ [119, 120, 121, 122, 2, 123, 15, 19, 124, 125, 126, 14, 127, 95, 128, 129, 130, 131, 34, 132, 133, 134, 135, 136, 137, 138, 139, 140, 141, 142, 143, 144, 145, 146, 147, 148, 149, 150, 151, 152, 153, 154, 155, 156, 157, 158, 159, 160, 161, 162, 163, 164, 165, 166, 167, 168, 169, 170, 171, 172, 173, 174, 175, 176, 177, 178, 179, 180, 181, 182, 183, 184, 185, 186, 187, 188, 189, 190, 191, 192, 193, 194, 195, 196, 197, 198, 199, 200, 201, 202, 203, 204, 205, 206, 207, 208, 209, 210, 211, 212, 213, 214, 215, 216, 217, 218, 219, 220, 221, 222, 223, 224, 225, 226, 227, 228, 229, 230, 231, 232, 18, 233, 234, 235, 236, 237, 238, 239, 240, 241, 242, 42, 243, 244, 245, 246, 247, 248, 249, 861, 862, 863, 864, 865, 866, 889, 890, 891, 892, 893, 894, 895, 896, 897] rfl (by decide +kernel)
set_option maxRecDepth 20000 in
theorem gL_law_X4_fault : GoodIn wsL_law (wsV RL 23 RX4 yX4_fault wsX4_fault) := goodIn_app (goodIn_of _ (by decide +kernel)) ggL_law_X4_fault
set_option maxRecDepth 20000 in
theorem ggL_law_X5_fault : GoodIn wsL_law wsX5_fault := goodIn_r _ [253, 101, 102, 5, 103, 254, 255, 256, 257, 100, 69, 258, 259, 260, 261, 71, 262, 263, 264, 265, 266, 267, 867, 868, 869, 870, 871, 872, 873, 874, 875, 876, 877, 878, 879, 880, 881, 882, 883, 884, 885, 886, 887, 888] rfl (by decide +kernel)
set_option maxRecDepth 20000 in
theorem gL_law_X5_fault : GoodIn wsL_law (wsV RL 26 RX5 yX5_fault wsX5_fault) := goodIn_app (goodIn_of _ (by decide +kernel)) ggL_law_X5_fault
set_option maxRecDepth 20000 in
theorem ggL_law_X4_ring : GoodIn wsL_law wsX4_ring := goodIn_r _ [271, 19, 15, 272, 273, 2, 274, 120, 121, 122, 123, 124, 125, 126, 14, 127, 95, 128, 129, 130, 131, 34, 132, 133, 134, 135, 136, 137, 138, 139, 140, 141, 142, 143, 144, 145, 146, 147, 148, 149, 150, 151, 152, 153, 154, 155, 156, 157, 158, 159, 160, 161, 162, 163, 164, 165, 166, 167, 168, 169, 170, 171, 172, 173, 174, 175, 176, 177, 178, 179, 180, 181, 182, 183, 184, 185, 186, 187, 188, 189, 190, 191, 192, 193, 194, 195, 196, 197, 198, 199, 200, 201, 202, 203, 204, 205, 206, 207, 208, 209, 210, 211, 212, 213, 214, 215, 216, 217, 218, 219, 220, 221, 222, 223, 224, 225, 226, 227, 228, 229, 230, 231, 232, 18, 233, 234, 235, 236, 237, 238, 239, 240, 241, 242, 42, 243, 244, 245, 246, 247, 248, 249, 275, 276, 277, 278, 36, 279, 280, 281, 282, 41, 283, 284, 285, 286, 287, 288, 289, 290, 24, 25, 291, 292, 293, 23, 294, 295, 108, 109, 110, 111, 861, 862, 863, 864, 865, 866, 889, 890, 891, 892, 893, 894, 895, 896, 897, 898, 899, 900, 901, 902, 903, 904, 905, 906] rfl (by decide +kernel)
set_option maxRecDepth 20000 in
theorem gL_law_X4_ring : GoodIn wsL_law (wsV RL 27 RX4 yX4_ring wsX4_ring) := goodIn_app (goodIn_of _ (by decide +kernel)) ggL_law_X4_ring
set_option maxRecDepth 20000 in
theorem ggL_law_X5_ring : GoodIn wsL_law wsX5_ring := goodIn_r _ [299, 100, 69, 70, 300, 301, 5, 302, 101, 102, 103, 254, 255, 256, 257, 258, 259, 260, 261, 71, 262, 263, 264, 265, 266, 267, 867, 868, 869, 870, 871, 872, 873, 874, 875, 876, 877, 878, 879, 880, 881, 882, 883, 884, 885, 886, 887, 888] rfl (by decide +kernel)
set_option maxRecDepth 20000 in
theorem gL_law_X5_ring : GoodIn wsL_law (wsV RL 30 RX5 yX5_ring wsX5_ring) := goodIn_app (goodIn_of _ (by decide +kernel)) ggL_law_X5_ring
set_option maxRecDepth 20000 in
theorem ggL_law_X4_slices : GoodIn wsL_law wsX4_slices := goodIn_r _ [306, 19, 15, 120, 121, 122, 2, 123, 124, 125, 126, 14, 127, 95, 128, 129, 130, 131, 34, 132, 133, 134, 135, 136, 137, 138, 139, 140, 141, 142, 143, 144, 145, 146, 147, 148, 149, 150, 151, 152, 153, 154, 155, 156, 157, 158, 159, 160, 161, 162, 163, 164, 165, 166, 167, 168, 169, 170, 171, 172, 173, 174, 175, 176, 177, 178, 179, 180, 181, 182, 183, 184, 185, 186, 187, 188, 189, 190, 191, 192, 193, 194, 195, 196, 197, 198, 199, 200, 201, 202, 203, 204, 205, 206, 207, 208, 209, 210, 211, 212, 213, 214, 215, 216, 217, 218, 219, 220, 221, 222, 223, 224, 225, 226, 227, 228, 229, 230, 231, 232, 18, 233, 234, 235, 236, 237, 238, 239, 240, 241, 242, 42, 243, 244, 245, 246, 247, 248, 249, 275, 276, 277, 278, 36, 307, 308, 309, 310, 283, 284, 285, 286, 108, 109, 110, 111, 861, 862, 863, 864, 865, 866, 889, 890, 891, 892, 893, 894, 895, 896, 897] rfl (by decide +kernel)
set_option maxRecDepth 20000 in
theorem gL_law_X4_slices : GoodIn wsL_law (wsV RL 31 RX4 yX4_slices wsX4_slices) := goodIn_app (goodIn_of _ (by decide +kernel)) ggL_law_X4_slices
set_option maxRecDepth 20000 in
theorem ggL_law_X5_slices : GoodIn wsL_law wsX5_slices := goodIn_r _ [314, 100, 69, 71, 315, 254, 255, 256, 5, 257, 101, 102, 103, 258, 259, 260, 261, 262, 263, 264, 265, 266, 267, 316, 317, 318, 319, 72, 867, 868, 869, 870, 871, 872, 873, 874, 875, 876, 877, 878, 879, 880, 881, 882, 883, 884, 885, 886, 887, 888] rfl (by decide +kernel)
set_option maxRecDepth 20000 in
theorem gL_law_X5_slices : GoodIn wsL_law (wsV RL 34 RX5 yX5_slices wsX5_slices) := goodIn_app (goodIn_of _ (by decide +kernel)) ggL_law_X5_slices
set_option maxRecDepth 20000 in
theorem ggL_law_X4_will : GoodIn wsL_law wsX4_will := goodIn_r _ [323, 19, 324, 15, 120, 121, 122, 2, 123, 124, 125, 126, 14, 127, 95, 128, 129, 130, 131, 34, 132, 133, 134, 135, 136, 137, 138, 139, 140, 141, 142, 143, 144, 145, 146, 147, 148, 149, 150, 151, 152, 153, 154, 155, 156, 157, 158, 159, 160, 161, 162, 163, 164, 165, 166, 167, 168, 169, 170, 171, 172, 173, 174, 175, 176, 177, 178, 179, 180, 181, 182, 183, 184, 185, 186, 187, 188, 189, 190, 191, 192, 193, 194, 195, 196, 197, 198, 199, 200, 201, 202, 203, 204, 205, 206, 207, 208, 209, 210, 211, 212, 213, 214, 215, 216, 217, 218, 219, 220, 221, 222, 223, 224, 225, 226, 227, 228, 229, 230, 231, 232, 18, 233, 234, 235, 236, 237, 238, 239, 240, 241, 242, 42, 243, 244, 245, 246, 247, 248, 249, 325, 326, 327, 328, 283, 284, 285, 286, 275, 276, 277, 278, 36, 329, 330, 331, 332, 333, 334, 335, 336, 108, 109, 110, 111, 861, 862, 863, 864, 865, 866, 892, 893, 894, 895, 896, 897, 889, 890, 891] rfl (by decide +kernel)
set_option maxRecDepth 20000 in
theorem gL_law_X4_will : GoodIn wsL_law (wsV RL 35 RX4 yX4_will wsX4_will) := goodIn_app (goodIn_of _ (by decide +kernel)) ggL_law_X4_will
set_option maxRecDepth 20000 in
theorem ggL_law_X5_will : GoodIn wsL_law wsX5_will := goodIn_r _ [340, 315, 69, 72, 71, 100, 254, 255, 256, 5, 257, 101, 102, 103, 258, 259, 260, 261, 262, 263, 264, 265, 266, 267, 316, 317, 318, 319, 867, 868, 869, 870, 871, 872, 873, 874, 875, 876, 877, 878, 879, 880, 881, 882, 883, 884, 885, 886, 887, 888] rfl (by decide +kernel)
set_option maxRecDepth 20000 in
theorem gL_law_X5_will : GoodIn wsL_law (wsV RL 38 RX5 yX5_will wsX5_will) := goodIn_app (goodIn_of _ (by decide +kernel)) ggL_law_X5_will
set_option maxRecDepth 20000 in
theorem ggL_law_X4_wedding : GoodIn wsL_law wsX4_wedding := goodIn_r _ [344, 19, 324, 345, 346, 2, 347, 348, 349, 350, 325, 326, 327, 18, 328, 42, 238, 283, 284, 285, 286, 351, 352, 353, 354, 234, 235, 236, 237, 239, 240, 241, 242, 333, 334, 335, 336, 861, 862, 863, 864, 865, 866, 892, 893, 894, 895, 896, 897] rfl (by decide +kernel)
set_option maxRecDepth 20000 in
theorem gL_law_X4_wedding : GoodIn wsL_law (wsV RL 39 RX4 yX4_wedding wsX4_wedding) := goodIn_app (goodIn_of _ (by decide +kernel)) ggL_law_X4_wedding
set_option maxRecDepth 20000 in
theorem ggL_law_X5_wedding : GoodIn wsL_law wsX5_wedding := goodIn_r _ [358, 315, 71, 359, 360, 5, 361, 101, 102, 103, 316, 317, 318, 319, 72, 867, 868, 869, 870, 871, 872, 873, 874, 875, 876, 877, 878, 879, 880, 881, 882, 883, 884, 885, 886, 887, 888] rfl (by decide +kernel)
set_option maxRecDepth 20000 in
theorem gL_law_X5_wedding : GoodIn wsL_law (wsV RL 43 RX5 yX5_wedding wsX5_wedding) := goodIn_app (goodIn_of _ (by decide +kernel)) ggL_law_X5_wedding
set_option maxRecDepth 20000 in
theorem ggL_law_X4_cell : GoodIn wsL_law wsX4_cell := goodIn_r _ [365, 19, 272, 273, 2, 274, 366, 367, 368, 369, 370, 371, 18, 372, 41, 373, 374, 375, 135, 376, 141, 142, 143, 144, 145, 146, 147, 377, 378, 158, 379, 380, 381, 382, 192, 383, 384, 195, 385, 386, 387, 175, 388, 389, 390, 391, 186, 187, 188, 392, 200, 201, 202, 203, 204, 205, 861, 862, 863, 864, 865, 866, 892, 893, 894, 895, 896, 897] rfl (by decide +kernel)
set_option maxRecDepth 20000 in
theorem gL_law_X4_cell : GoodIn wsL_law (wsV RL 44 RX4 yX4_cell wsX4_cell) := goodIn_app (goodIn_of _ (by decide +kernel)) ggL_law_X4_cell
set_option maxRecDepth 20000 in
theorem ggL_law_X5_cell : GoodIn wsL_law wsX5_cell := goodIn_r _ [396, 70, 300, 301, 5, 302, 101, 102, 103, 397, 398, 399, 867, 868, 869, 870, 871, 872, 873, 874, 875, 876, 877, 878, 879, 880, 881, 882, 883, 884, 885, 886, 887, 888] rfl (by decide +kernel)
set_option maxRecDepth 20000 in
theorem gL_law_X5_cell : GoodIn wsL_law (wsV RL 47 RX5 yX5_cell wsX5_cell) := goodIn_app (goodIn_of _ (by decide +kernel)) ggL_law_X5_cell
set_option maxRecDepth 20000 in
theorem ggL_law_X4_was : GoodIn wsL_law wsX4_was := goodIn_r _ [403, 19, 324, 366, 367, 2, 368, 404, 240, 241, 18, 242, 42, 861, 862, 863, 864, 865, 866, 892, 893, 894, 895, 896, 897] rfl (by decide +kernel)
set_option maxRecDepth 20000 in
theorem gL_law_X4_was : GoodIn wsL_law (wsV RL 48 RX4 yX4_was wsX4_was) := goodIn_app (goodIn_of _ (by decide +kernel)) ggL_law_X4_was
set_option maxRecDepth 20000 in
theorem ggL_law_X5_was : GoodIn wsL_law wsX5_was := goodIn_r _ [408, 315, 72, 397, 398, 5, 399, 101, 102, 103, 867, 868, 869, 870, 871, 872, 873, 874, 875, 876, 877, 878, 879, 880, 881, 882, 883, 884, 885, 886, 887, 888] rfl (by decide +kernel)
set_option maxRecDepth 20000 in
theorem gL_law_X5_was : GoodIn wsL_law (wsV RL 51 RX5 yX5_was wsX5_was) := goodIn_app (goodIn_of _ (by decide +kernel)) ggL_law_X5_was
set_option maxRecDepth 20000 in
theorem ggL_law_X4_has : GoodIn wsL_law wsX4_has := goodIn_r _ [412, 19, 348, 349, 2, 350, 230, 231, 232, 18, 233, 234, 235, 236, 237, 238, 239, 240, 241, 242, 42, 861, 862, 863, 864, 865, 866, 892, 893, 894, 895, 896, 897] rfl (by decide +kernel)
set_option maxRecDepth 20000 in
theorem gL_law_X4_has : GoodIn wsL_law (wsV RL 52 RX4 yX4_has wsX4_has) := goodIn_app (goodIn_of _ (by decide +kernel)) ggL_law_X4_has
set_option maxRecDepth 20000 in
theorem ggL_law_X5_has : GoodIn wsL_law wsX5_has := goodIn_r _ [416, 359, 360, 5, 361, 101, 102, 103, 417, 418, 419, 420, 71, 867, 868, 869, 870, 871, 872, 873, 874, 875, 876, 877, 878, 879, 880, 881, 882, 883, 884, 885, 886, 887, 888] rfl (by decide +kernel)
set_option maxRecDepth 20000 in
theorem gL_law_X5_has : GoodIn wsL_law (wsV RL 55 RX5 yX5_has wsX5_has) := goodIn_app (goodIn_of _ (by decide +kernel)) ggL_law_X5_has
set_option maxRecDepth 20000 in
theorem ggL_law_X4_worth : GoodIn wsL_law wsX4_worth := goodIn_r _ [424, 19, 348, 349, 2, 350, 425, 426, 427, 428, 133, 134, 135, 136, 137, 138, 139, 140, 141, 142, 143, 144, 145, 146, 147, 148, 149, 150, 151, 152, 153, 154, 155, 156, 157, 158, 159, 160, 161, 162, 163, 164, 165, 166, 167, 168, 169, 170, 171, 172, 173, 174, 175, 176, 177, 178, 179, 180, 181, 182, 183, 184, 185, 186, 187, 188, 189, 190, 191, 192, 193, 194, 195, 196, 197, 198, 199, 200, 201, 202, 203, 204, 205, 206, 207, 208, 209, 210, 211, 212, 213, 214, 215, 216, 217, 218, 219, 220, 287, 288, 289, 290, 24, 25, 291, 292, 293, 23, 294, 295, 429, 430, 431, 18, 432, 43, 861, 862, 863, 864, 865, 866, 898, 899, 900, 901, 902, 903, 904, 905, 906, 892, 893, 894, 895, 896, 897] rfl (by decide +kernel)
set_option maxRecDepth 20000 in
theorem gL_law_X4_worth : GoodIn wsL_law (wsV RL 56 RX4 yX4_worth wsX4_worth) := goodIn_app (goodIn_of _ (by decide +kernel)) ggL_law_X4_worth
set_option maxRecDepth 20000 in
theorem ggL_law_X5_worth : GoodIn wsL_law wsX5_worth := goodIn_r _ [436, 73, 359, 360, 5, 361, 101, 102, 103, 265, 266, 267, 867, 868, 869, 870, 871, 872, 873, 874, 875, 876, 877, 878, 879, 880, 881, 882, 883, 884, 885, 886, 887, 888] rfl (by decide +kernel)
set_option maxRecDepth 20000 in
theorem gL_law_X5_worth : GoodIn wsL_law (wsV RL 60 RX5 yX5_worth wsX5_worth) := goodIn_app (goodIn_of _ (by decide +kernel)) ggL_law_X5_worth
set_option maxRecDepth 20000 in
theorem ggL_law_X4_share : GoodIn wsL_law wsX4_share := goodIn_r _ [440, 441, 19, 348, 349, 2, 350, 442, 443, 444, 18, 445, 446, 447, 448, 449, 43, 450, 370, 371, 372, 41, 861, 862, 863, 864, 865, 866, 892, 893, 894, 895, 896, 897] rfl (by decide +kernel)
set_option maxRecDepth 20000 in
theorem gL_law_X4_share : GoodIn wsL_law (wsV RL 61 RX4 yX4_share wsX4_share) := goodIn_app (goodIn_of _ (by decide +kernel)) ggL_law_X4_share
set_option maxRecDepth 20000 in
theorem ggL_law_X5_share : GoodIn wsL_law wsX5_share := goodIn_r _ [454, 455, 359, 360, 5, 361, 101, 102, 103, 456, 457, 458, 459, 460, 461, 462, 463, 464, 465, 466, 73, 70, 265, 266, 267, 867, 868, 869, 870, 871, 872, 873, 874, 875, 876, 877, 878, 879, 880, 881, 882, 883, 884, 885, 886, 887, 888] rfl (by decide +kernel)
set_option maxRecDepth 20000 in
theorem gL_law_X5_share : GoodIn wsL_law (wsV RL 64 RX5 yX5_share wsX5_share) := goodIn_app (goodIn_of _ (by decide +kernel)) ggL_law_X5_share
set_option maxRecDepth 20000 in
theorem ggL_law_X4_envies : GoodIn wsL_law wsX4_envies := goodIn_r _ [470, 19, 348, 349, 2, 350, 230, 231, 232, 18, 233, 234, 235, 236, 237, 238, 239, 240, 241, 242, 42, 442, 443, 444, 445, 446, 447, 448, 449, 43, 450, 370, 371, 372, 41, 861, 862, 863, 864, 865, 866, 892, 893, 894, 895, 896, 897] rfl (by decide +kernel)
set_option maxRecDepth 20000 in
theorem gL_law_X4_envies : GoodIn wsL_law (wsV RL 65 RX4 yX4_envies wsX4_envies) := goodIn_app (goodIn_of _ (by decide +kernel)) ggL_law_X4_envies
set_option maxRecDepth 20000 in
theorem ggL_law_X5_envies : GoodIn wsL_law wsX5_envies := goodIn_r _ [474, 359, 360, 5, 361, 101, 102, 103, 417, 418, 419, 420, 71, 456, 457, 458, 459, 460, 461, 462, 463, 464, 465, 466, 73, 70, 265, 266, 267, 867, 868, 869, 870, 871, 872, 873, 874, 875, 876, 877, 878, 879, 880, 881, 882, 883, 884, 885, 886, 887, 888] rfl (by decide +kernel)
set_option maxRecDepth 20000 in
theorem gL_law_X5_envies : GoodIn wsL_law (wsV RL 68 RX5 yX5_envies wsX5_envies) := goodIn_app (goodIn_of _ (by decide +kernel)) ggL_law_X5_envies
set_option maxRecDepth 20000 in
theorem ggL_law_X4_fair : GoodIn wsL_law wsX4_fair := goodIn_r _ [478, 24, 479, 480, 481, 2, 482, 19, 483, 484, 485, 23, 486, 295, 487, 52, 488, 489, 165, 162, 166, 490, 491, 492, 493, 50, 494, 447, 448, 18, 449, 43, 450, 370, 371, 372, 41, 495, 496, 497, 498, 56, 499, 500, 501, 502, 503, 504, 505, 506, 507, 508, 509, 510, 51, 511, 512, 513, 514, 515, 516, 517, 518, 53, 519, 520, 521, 522, 523, 524, 525, 526, 527, 528, 529, 530, 54, 531, 284, 285, 286, 55, 532, 533, 534, 535, 536, 537, 538, 539, 861, 862, 863, 864, 865, 866, 898, 899, 900, 901, 902, 903, 904, 905, 906, 892, 893, 894, 895, 896, 897] rfl (by decide +kernel)
set_option maxRecDepth 20000 in
theorem gL_law_X4_fair : GoodIn wsL_law (wsV RL 69 RX4 yX4_fair wsX4_fair) := goodIn_app (goodIn_of _ (by decide +kernel)) ggL_law_X4_fair
