set_option maxRecDepth 20000 in
theorem ggL_law_X5_fair : GoodIn wsL_law wsX5_fair := goodIn_r _ [543, 101, 102, 5, 103, 544, 545, 546, 547, 77, 548, 549, 550, 551, 552, 76, 463, 464, 465, 466, 73, 70, 265, 266, 267, 553, 554, 555, 556, 78, 557, 558, 559, 560, 561, 562, 563, 564, 565, 566, 567, 568, 569, 570, 571, 572, 79, 80, 573, 574, 575, 576, 577, 578, 579, 580, 867, 868, 869, 870, 871, 872, 873, 874, 875, 876, 877, 878, 879, 880, 881, 882, 883, 884, 885, 886, 887, 888] rfl (by decide +kernel)
set_option maxRecDepth 20000 in
theorem gL_law_X5_fair : GoodIn wsL_law (wsV RL 72 RX5 yX5_fair wsX5_fair) := goodIn_app (goodIn_of _ (by decide +kernel)) ggL_law_X5_fair
set_option maxRecDepth 20000 in
theorem ggL_law_X4_best : GoodIn wsL_law wsX4_best := goodIn_r _ [584, 25, 479, 480, 481, 2, 482, 19, 483, 484, 485, 23, 486, 295, 487, 52, 488, 489, 165, 162, 166, 490, 491, 492, 493, 50, 494, 447, 448, 18, 449, 43, 450, 370, 371, 372, 41, 495, 496, 497, 498, 56, 499, 500, 501, 502, 503, 504, 505, 506, 507, 508, 509, 510, 51, 511, 512, 513, 514, 515, 516, 517, 518, 53, 519, 520, 521, 522, 523, 524, 525, 526, 527, 528, 529, 530, 54, 531, 284, 285, 286, 55, 532, 533, 534, 535, 536, 537, 538, 539, 861, 862, 863, 864, 865, 866, 898, 899, 900, 901, 902, 903, 904, 905, 906, 892, 893, 894, 895, 896, 897] rfl (by decide +kernel)
set_option maxRecDepth 20000 in
theorem gL_law_X4_best : GoodIn wsL_law (wsV RL 73 RX4 yX4_best wsX4_best) := goodIn_app (goodIn_of _ (by decide +kernel)) ggL_law_X4_best
set_option maxRecDepth 20000 in
theorem ggL_law_X5_best : GoodIn wsL_law wsX5_best := goodIn_r _ [588, 548, 101, 102, 5, 103, 544, 545, 546, 547, 77, 549, 550, 551, 552, 76, 463, 464, 465, 466, 73, 70, 265, 266, 267, 553, 554, 555, 556, 78, 557, 558, 559, 560, 561, 562, 563, 564, 565, 566, 567, 568, 569, 570, 571, 572, 79, 80, 573, 574, 575, 576, 577, 578, 579, 580, 867, 868, 869, 870, 871, 872, 873, 874, 875, 876, 877, 878, 879, 880, 881, 882, 883, 884, 885, 886, 887, 888] rfl (by decide +kernel)
set_option maxRecDepth 20000 in
theorem gL_law_X5_best : GoodIn wsL_law (wsV RL 76 RX5 yX5_best wsX5_best) := goodIn_app (goodIn_of _ (by decide +kernel)) ggL_law_X5_best
set_option maxRecDepth 20000 in
theorem ggL_law_X4_toll : GoodIn wsL_law wsX4_toll := goodIn_r _ [592, 19, 593, 861, 862, 863, 864, 865, 866, 892, 893, 894, 895, 896, 897] rfl (by decide +kernel)
set_option maxRecDepth 20000 in
theorem gL_law_X4_toll : GoodIn wsL_law (wsV RL 77 RX4 yX4_toll wsX4_toll) := goodIn_app (goodIn_of _ (by decide +kernel)) ggL_law_X4_toll
set_option maxRecDepth 20000 in
theorem ggL_law_X5_toll : GoodIn wsL_law wsX5_toll := goodIn_r _ [597, 74, 101, 102, 5, 103, 867, 868, 869, 870, 871, 872, 873, 874, 875, 876, 877, 878, 879, 880, 881, 882, 883, 884, 885, 886, 887, 888] rfl (by decide +kernel)
set_option maxRecDepth 20000 in
theorem gL_law_X5_toll : GoodIn wsL_law (wsV RL 80 RX5 yX5_toll wsX5_toll) := goodIn_app (goodIn_of _ (by decide +kernel)) ggL_law_X5_toll
set_option maxRecDepth 20000 in
theorem ggL_law_X4_right : GoodIn wsL_law wsX4_right := goodIn_r _ [601, 19, 345, 346, 2, 347, 348, 349, 350, 602, 603, 604, 18, 605, 44, 606, 607, 608, 609, 861, 862, 863, 864, 865, 866, 892, 893, 894, 895, 896, 897] rfl (by decide +kernel)
set_option maxRecDepth 20000 in
theorem gL_law_X4_right : GoodIn wsL_law (wsV RL 81 RX4 yX4_right wsX4_right) := goodIn_app (goodIn_of _ (by decide +kernel)) ggL_law_X4_right
set_option maxRecDepth 20000 in
theorem ggL_law_X5_right : GoodIn wsL_law wsX5_right := goodIn_r _ [613, 75, 359, 360, 5, 361, 101, 102, 103, 867, 868, 869, 870, 871, 872, 873, 874, 875, 876, 877, 878, 879, 880, 881, 882, 883, 884, 885, 886, 887, 888] rfl (by decide +kernel)
set_option maxRecDepth 20000 in
theorem gL_law_X5_right : GoodIn wsL_law (wsV RL 85 RX5 yX5_right wsX5_right) := goodIn_app (goodIn_of _ (by decide +kernel)) ggL_law_X5_right
set_option maxRecDepth 20000 in
theorem ggL_law_X4_way : GoodIn wsL_law wsX4_way := goodIn_r _ [617, 348, 349, 2, 350, 366, 367, 368, 618, 619, 620, 621, 622, 623, 165, 162, 166, 624, 625, 626, 627, 628, 629, 630, 631, 632, 633, 634, 19, 593, 635, 636, 637, 18, 638, 234, 235, 236, 237, 238, 239, 240, 241, 242, 42, 606, 607, 608, 609, 44, 639, 640, 641, 642, 861, 862, 863, 864, 865, 866, 892, 893, 894, 895, 896, 897] rfl (by decide +kernel)
set_option maxRecDepth 20000 in
theorem gL_law_X4_way : GoodIn wsL_law (wsV RL 86 RX4 yX4_way wsX4_way) := goodIn_app (goodIn_of _ (by decide +kernel)) ggL_law_X4_way
set_option maxRecDepth 20000 in
theorem ggL_law_X5_way : GoodIn wsL_law wsX5_way := goodIn_r _ [646, 359, 360, 5, 361, 101, 102, 103, 397, 398, 399, 647, 648, 649, 650, 71, 75, 74, 651, 652, 653, 654, 655, 656, 460, 461, 462, 867, 868, 869, 870, 871, 872, 873, 874, 875, 876, 877, 878, 879, 880, 881, 882, 883, 884, 885, 886, 887, 888] rfl (by decide +kernel)
set_option maxRecDepth 20000 in
theorem gL_law_X5_way : GoodIn wsL_law (wsV RL 90 RX5 yX5_way wsX5_way) := goodIn_app (goodIn_of _ (by decide +kernel)) ggL_law_X5_way
set_option maxRecDepth 20000 in
theorem ggL_law_X4_stone : GoodIn wsL_law wsX4_stone := goodIn_r _ [660, 272, 273, 2, 274, 366, 367, 368, 661, 662, 663, 664, 19, 369, 370, 371, 18, 372, 41, 665, 666, 667, 668, 669, 235, 236, 237, 238, 239, 240, 241, 242, 42, 670, 671, 672, 673, 861, 862, 863, 864, 865, 866, 892, 893, 894, 895, 896, 897] rfl (by decide +kernel)
set_option maxRecDepth 20000 in
theorem gL_law_X4_stone : GoodIn wsL_law (wsV RL 91 RX4 yX4_stone wsX4_stone) := goodIn_app (goodIn_of _ (by decide +kernel)) ggL_law_X4_stone
set_option maxRecDepth 20000 in
theorem ggL_law_X5_stone : GoodIn wsL_law wsX5_stone := goodIn_r _ [677, 678, 300, 301, 5, 302, 101, 102, 103, 397, 398, 399, 679, 680, 681, 682, 70, 71, 651, 652, 653, 867, 868, 869, 870, 871, 872, 873, 874, 875, 876, 877, 878, 879, 880, 881, 882, 883, 884, 885, 886, 887, 888] rfl (by decide +kernel)
set_option maxRecDepth 20000 in
theorem gL_law_X5_stone : GoodIn wsL_law (wsV RL 94 RX5 yX5_stone wsX5_stone) := goodIn_app (goodIn_of _ (by decide +kernel)) ggL_law_X5_stone
set_option maxRecDepth 20000 in
theorem ggL_law_X4_avalanche : GoodIn wsL_law wsX4_avalanche := goodIn_r _ [686, 19, 272, 273, 2, 274, 366, 367, 368, 369, 370, 371, 18, 372, 41, 687, 688, 689, 690, 691, 692, 693, 441, 694, 695, 696, 697, 450, 243, 244, 245, 246, 247, 248, 249, 698, 699, 700, 701, 234, 235, 236, 237, 238, 239, 240, 241, 242, 42, 861, 862, 863, 864, 865, 866, 892, 893, 894, 895, 896, 897] rfl (by decide +kernel)
set_option maxRecDepth 20000 in
theorem gL_law_X4_avalanche : GoodIn wsL_law (wsV RL 95 RX4 yX4_avalanche wsX4_avalanche) := goodIn_app (goodIn_of _ (by decide +kernel)) ggL_law_X4_avalanche
set_option maxRecDepth 20000 in
theorem ggL_law_X5_avalanche : GoodIn wsL_law wsX5_avalanche := goodIn_r _ [705, 70, 71, 300, 301, 5, 302, 101, 102, 103, 397, 398, 399, 460, 461, 462, 651, 652, 653, 654, 655, 656, 867, 868, 869, 870, 871, 872, 873, 874, 875, 876, 877, 878, 879, 880, 881, 882, 883, 884, 885, 886, 887, 888] rfl (by decide +kernel)
set_option maxRecDepth 20000 in
theorem gL_law_X5_avalanche : GoodIn wsL_law (wsV RL 98 RX5 yX5_avalanche wsX5_avalanche) := goodIn_app (goodIn_of _ (by decide +kernel)) ggL_law_X5_avalanche
set_option maxRecDepth 20000 in
theorem ggL_law_X4_rolls : GoodIn wsL_law wsX4_rolls := goodIn_r _ [709, 19, 348, 349, 2, 350, 669, 235, 236, 18, 237, 238, 239, 240, 241, 242, 42, 661, 662, 663, 664, 369, 370, 371, 372, 41, 665, 666, 667, 668, 861, 862, 863, 864, 865, 866, 892, 893, 894, 895, 896, 897] rfl (by decide +kernel)
set_option maxRecDepth 20000 in
theorem gL_law_X4_rolls : GoodIn wsL_law (wsV RL 99 RX4 yX4_rolls wsX4_rolls) := goodIn_app (goodIn_of _ (by decide +kernel)) ggL_law_X4_rolls
set_option maxRecDepth 20000 in
theorem ggL_law_X5_rolls : GoodIn wsL_law wsX5_rolls := goodIn_r _ [713, 71, 359, 360, 5, 361, 101, 102, 103, 679, 680, 681, 682, 678, 70, 651, 652, 653, 867, 868, 869, 870, 871, 872, 873, 874, 875, 876, 877, 878, 879, 880, 881, 882, 883, 884, 885, 886, 887, 888] rfl (by decide +kernel)
set_option maxRecDepth 20000 in
theorem gL_law_X5_rolls : GoodIn wsL_law (wsV RL 102 RX5 yX5_rolls wsX5_rolls) := goodIn_app (goodIn_of _ (by decide +kernel)) ggL_law_X5_rolls
set_option maxRecDepth 20000 in
theorem ggL_law_X4_fence : GoodIn wsL_law wsX4_fence := goodIn_r _ [717, 29, 19, 348, 349, 2, 350, 718, 719, 720, 28, 721, 64, 722, 370, 371, 18, 372, 41, 723, 235, 236, 237, 238, 239, 240, 241, 242, 42, 724, 725, 726, 727, 60, 728, 729, 730, 731, 732, 61, 62, 733, 734, 735, 736, 737, 738, 739, 740, 741, 742, 743, 744, 165, 162, 166, 745, 746, 747, 861, 862, 863, 864, 865, 866, 907, 908, 909, 910, 911, 892, 893, 894, 895, 896, 897] rfl (by decide +kernel)
set_option maxRecDepth 20000 in
theorem gL_law_X4_fence : GoodIn wsL_law (wsV RL 103 RX4 yX4_fence wsX4_fence) := goodIn_app (goodIn_of _ (by decide +kernel)) ggL_law_X4_fence
set_option maxRecDepth 20000 in
theorem ggL_law_X5_fence : GoodIn wsL_law wsX5_fence := goodIn_r _ [751, 81, 82, 359, 360, 5, 361, 101, 102, 103, 752, 753, 754, 755, 83, 84, 756, 757, 758, 759, 71, 70, 760, 761, 762, 763, 651, 652, 653, 654, 655, 656, 764, 765, 766, 767, 768, 769, 770, 771, 867, 868, 869, 870, 871, 872, 873, 874, 875, 876, 877, 878, 879, 880, 881, 882, 883, 884, 885, 886, 887, 888] rfl (by decide +kernel)
set_option maxRecDepth 20000 in
theorem gL_law_X5_fence : GoodIn wsL_law (wsV RL 106 RX5 yX5_fence wsX5_fence) := goodIn_app (goodIn_of _ (by decide +kernel)) ggL_law_X5_fence
set_option maxRecDepth 20000 in
theorem ggL_law_X4_spring : GoodIn wsL_law wsX4_spring := goodIn_r _ [775, 19, 366, 367, 2, 368, 669, 235, 236, 18, 237, 238, 239, 240, 241, 242, 42, 776, 777, 778, 779, 780, 781, 782, 783, 861, 862, 863, 864, 865, 866, 892, 893, 894, 895, 896, 897] rfl (by decide +kernel)
set_option maxRecDepth 20000 in
theorem gL_law_X4_spring : GoodIn wsL_law (wsV RL 107 RX4 yX4_spring wsX4_spring) := goodIn_app (goodIn_of _ (by decide +kernel)) ggL_law_X4_spring
set_option maxRecDepth 20000 in
theorem ggL_law_X5_spring : GoodIn wsL_law wsX5_spring := goodIn_r _ [787, 71, 397, 398, 5, 399, 101, 102, 103, 867, 868, 869, 870, 871, 872, 873, 874, 875, 876, 877, 878, 879, 880, 881, 882, 883, 884, 885, 886, 887, 888] rfl (by decide +kernel)
set_option maxRecDepth 20000 in
theorem gL_law_X5_spring : GoodIn wsL_law (wsV RL 110 RX5 yX5_spring wsX5_spring) := goodIn_app (goodIn_of _ (by decide +kernel)) ggL_law_X5_spring
set_option maxRecDepth 20000 in
theorem ggL_law_X4_bounds : GoodIn wsL_law wsX4_bounds := goodIn_r _ [791, 792, 793, 794, 2, 795, 19, 669, 235, 236, 18, 237, 238, 239, 240, 241, 242, 42, 796, 797, 798, 799, 800, 801, 802, 230, 231, 232, 233, 234, 803, 804, 805, 806, 623, 165, 162, 166, 807, 808, 809, 810, 861, 862, 863, 864, 865, 866, 892, 893, 894, 895, 896, 897] rfl (by decide +kernel)
set_option maxRecDepth 20000 in
theorem gL_law_X4_bounds : GoodIn wsL_law (wsV RL 111 RX4 yX4_bounds wsX4_bounds) := goodIn_app (goodIn_of _ (by decide +kernel)) ggL_law_X4_bounds
set_option maxRecDepth 20000 in
theorem ggL_law_X5_bounds : GoodIn wsL_law wsX5_bounds := goodIn_r _ [814, 815, 816, 817, 5, 818, 71, 651, 652, 653, 819, 820, 821, 822, 258, 259, 260, 261, 823, 824, 825, 826, 654, 655, 656, 867, 868, 869, 870, 871, 872, 873, 874, 875, 876, 877, 878, 879, 880, 881, 882, 883, 884, 885, 886, 887, 888] rfl (by decide +kernel)
set_option maxRecDepth 20000 in
theorem gL_law_X5_bounds : GoodIn wsL_law (wsV RL 114 RX5 yX5_bounds wsX5_bounds) := goodIn_app (goodIn_of _ (by decide +kernel)) ggL_law_X5_bounds
set_option maxRecDepth 20000 in
theorem ggL_law_X4_image : GoodIn wsL_law wsX4_image := goodIn_r _ [830, 20, 16, 17, 18, 19, 831, 832, 2, 833, 37, 38, 39, 40, 10, 11, 35, 41, 42, 43, 44, 45, 834, 835, 836, 837, 283, 284, 285, 286, 238, 861, 862, 863, 864, 865, 866, 892, 893, 894, 895, 896, 897] rfl (by decide +kernel)
set_option maxRecDepth 20000 in
theorem gL_law_X4_image : GoodIn wsL_law (wsV RL 115 RX4 yX4_image wsX4_image) := goodIn_app (goodIn_of _ (by decide +kernel)) ggL_law_X4_image
set_option maxRecDepth 20000 in
theorem ggL_law_X5_image : GoodIn wsL_law wsX5_image := goodIn_r _ [841, 85, 70, 71, 72, 73, 75, 315, 74, 86, 101, 102, 5, 103, 867, 868, 869, 870, 871, 872, 873, 874, 875, 876, 877, 878, 879, 880, 881, 882, 883, 884, 885, 886, 887, 888] rfl (by decide +kernel)
set_option maxRecDepth 20000 in
theorem gL_law_X5_image : GoodIn wsL_law (wsV RL 118 RX5 yX5_image wsX5_image) := goodIn_app (goodIn_of _ (by decide +kernel)) ggL_law_X5_image
set_option maxRecDepth 20000 in
theorem ggL_law_X4_restore : GoodIn wsL_law wsX4_restore := goodIn_r _ [845, 20, 19, 831, 832, 2, 833, 834, 835, 836, 18, 837, 41, 283, 284, 285, 286, 42, 43, 44, 238, 45, 287, 288, 289, 290, 24, 25, 291, 292, 293, 23, 294, 295, 861, 862, 863, 864, 865, 866, 892, 893, 894, 895, 896, 897, 898, 899, 900, 901, 902, 903, 904, 905, 906] rfl (by decide +kernel)
set_option maxRecDepth 20000 in
theorem gL_law_X4_restore : GoodIn wsL_law (wsV RL 119 RX4 yX4_restore wsX4_restore) := goodIn_app (goodIn_of _ (by decide +kernel)) ggL_law_X4_restore
set_option maxRecDepth 20000 in
theorem ggL_law_X5_restore : GoodIn wsL_law wsX5_restore := goodIn_r _ [849, 86, 70, 85, 71, 72, 73, 75, 315, 74, 101, 102, 5, 103, 867, 868, 869, 870, 871, 872, 873, 874, 875, 876, 877, 878, 879, 880, 881, 882, 883, 884, 885, 886, 887, 888] rfl (by decide +kernel)
set_option maxRecDepth 20000 in
theorem gL_law_X5_restore : GoodIn wsL_law (wsV RL 122 RX5 yX5_restore wsX5_restore) := goodIn_app (goodIn_of _ (by decide +kernel)) ggL_law_X5_restore
set_option maxRecDepth 20000 in
theorem ggL_law_X4_told : GoodIn wsL_law wsX4_told := goodIn_r _ [853, 15, 854, 19, 324, 593, 855, 856, 230, 231, 232, 18, 233, 234, 235, 236, 237, 238, 239, 240, 241, 242, 42, 243, 244, 245, 246, 247, 248, 249, 861, 862, 863, 864, 865, 866, 889, 890, 891, 892, 893, 894, 895, 896, 897] rfl (by decide +kernel)
set_option maxRecDepth 20000 in
theorem gL_law_X4_told : GoodIn wsL_law (wsV RL 123 RX4 yX4_told wsX4_told) := goodIn_app (goodIn_of _ (by decide +kernel)) ggL_law_X4_told
set_option maxRecDepth 20000 in
theorem ggL_law_X5_told : GoodIn wsL_law wsX5_told := goodIn_r _ [860, 75, 73, 100, 315, 74, 101, 102, 5, 103, 258, 259, 260, 261, 71, 867, 868, 869, 870, 871, 872, 873, 874, 875, 876, 877, 878, 879, 880, 881, 882, 883, 884, 885, 886, 887, 888] rfl (by decide +kernel)
set_option maxRecDepth 20000 in
theorem gL_law_X5_told : GoodIn wsL_law (wsV RL 126 RX5 yX5_told wsX5_told) := goodIn_app (goodIn_of _ (by decide +kernel)) ggL_law_X5_told
