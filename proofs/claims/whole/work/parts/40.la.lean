/-! the law: its words stand in the tables (printed by wip/whole/gen/mklaw1.py) -/
theorem in_r {big : List Cond} (ws : List Cond) (ps : List Nat) (hp : ws = ps.filterMap (fun i => big[i]?)) : ∀ w ∈ ws, w ∈ big := by
  intro w hw
  rw [hp] at hw
  obtain ⟨i, -, hi⟩ := List.mem_filterMap.mp hw
  exact List.mem_of_getElem? hi
set_option maxRecDepth 20000 in
theorem i_wsL_law_r1 : ∀ w ∈ wsL_law_r1, w ∈ lw_tbl := in_r _ [74, 75, 60, 733, 734, 65, 76, 77, 78, 79, 80, 81, 82, 83, 61, 192, 101, 102, 62, 193, 194, 135, 136, 63] rfl
set_option maxRecDepth 20000 in
theorem i_wsL_law_r2 : ∀ w ∈ wsL_law_r2, w ∈ lw_tbl := in_r _ [195, 196, 169, 170, 64, 197, 85, 86, 87, 99, 88, 100, 89, 103, 104, 105, 106, 111, 112, 113, 115, 119, 137, 138] rfl
set_option maxRecDepth 20000 in
theorem i_wsL_law_r3 : ∀ w ∈ wsL_law_r3, w ∈ lw_tbl := in_r _ [139, 140, 142, 143, 144, 145, 146, 147, 141, 172, 173, 174, 175, 176, 177, 191, 178, 735, 736, 737, 738, 740, 741, 742] rfl
set_option maxRecDepth 20000 in
theorem i_wsL_law_r4 : ∀ w ∈ wsL_law_r4, w ∈ lw_tbl := in_r _ [744, 745, 746, 747, 748, 749, 750, 751, 752, 755, 756, 757, 758, 759, 760, 211, 212, 213, 214, 215, 216, 217, 218, 90] rfl
set_option maxRecDepth 20000 in
theorem i_wsL_law_r5 : ∀ w ∈ wsL_law_r5, w ∈ lw_tbl := in_r _ [806, 807, 808, 809, 739, 810, 811, 812, 219, 220, 221, 222, 223, 224, 225, 226, 813, 814, 815, 816, 227, 228, 229, 230] rfl
set_option maxRecDepth 20000 in
theorem i_wsL_law_r6 : ∀ w ∈ wsL_law_r6, w ∈ lw_tbl := in_r _ [231, 233, 0, 234, 236, 237, 238, 239, 240, 241, 242, 243, 244, 245, 246, 66, 247, 248, 249, 250, 251, 1043, 252, 253] rfl
set_option maxRecDepth 20000 in
theorem i_wsL_law_r7 : ∀ w ∈ wsL_law_r7, w ∈ lw_tbl := in_r _ [254, 255, 256, 1042, 258, 259, 260, 261, 262, 263, 264, 265, 266, 267, 67, 268, 272, 273, 68, 274, 275, 276, 277, 269] rfl
set_option maxRecDepth 20000 in
theorem i_wsL_law_r8 : ∀ w ∈ wsL_law_r8, w ∈ lw_tbl := in_r _ [270, 271, 278, 279, 280, 281, 282, 69, 283, 284, 285, 286, 287, 288, 289, 290, 291, 292, 293, 294, 295, 296, 297, 298] rfl
set_option maxRecDepth 20000 in
theorem i_wsL_law_r9 : ∀ w ∈ wsL_law_r9, w ∈ lw_tbl := in_r _ [299, 301, 302, 70, 303, 304, 305, 306, 307, 308, 309, 310, 312, 314, 316, 317, 318, 319, 320, 71, 321, 322, 323, 324] rfl
set_option maxRecDepth 20000 in
theorem i_wsL_law_r10 : ∀ w ∈ wsL_law_r10, w ∈ lw_tbl := in_r _ [325, 326, 327, 328, 329, 330, 332, 1, 333, 335, 336, 337, 338, 339, 340, 341, 342, 343, 344, 345, 346, 347, 117, 348] rfl
set_option maxRecDepth 20000 in
theorem i_wsL_law_r11 : ∀ w ∈ wsL_law_r11, w ∈ lw_tbl := in_r _ [349, 350, 351, 352, 353, 72, 354, 355, 356, 357, 817, 818, 819, 820, 821, 823, 34, 824, 825, 827, 35, 828, 829, 830] rfl
set_option maxRecDepth 20000 in
theorem i_wsL_law_r12 : ∀ w ∈ wsL_law_r12, w ∈ lw_tbl := in_r _ [831, 832, 833, 834, 359, 360, 361, 362, 363, 364, 365, 366, 367, 368, 369, 370, 371, 372, 373, 374, 376, 375, 73, 377] rfl
set_option maxRecDepth 20000 in
theorem i_wsL_law_r13 : ∀ w ∈ wsL_law_r13, w ∈ lw_tbl := in_r _ [379, 2, 380, 381, 382, 383, 384, 148, 835, 836, 837, 838, 839, 840, 841, 385, 386, 387, 388, 389, 390, 391, 392, 842] rfl
set_option maxRecDepth 20000 in
theorem i_wsL_law_r14 : ∀ w ∈ wsL_law_r14, w ∈ lw_tbl := in_r _ [843, 844, 845, 743, 846, 848, 36, 849, 393, 394, 395, 396, 118, 397, 398, 399, 400, 401, 402, 403, 404, 405, 407, 3] rfl
set_option maxRecDepth 20000 in
theorem i_wsL_law_r15 : ∀ w ∈ wsL_law_r15, w ∈ lw_tbl := in_r _ [408, 850, 851, 852, 853, 409, 410, 411, 412, 413, 414, 415, 416, 417, 418, 419, 420, 421, 422, 854, 855, 856, 857, 858] rfl
set_option maxRecDepth 20000 in
theorem i_wsL_law_r16 : ∀ w ∈ wsL_law_r16, w ∈ lw_tbl := in_r _ [859, 860, 423, 424, 425, 426, 427, 428, 429, 430, 431, 432, 433, 434, 435, 436, 437, 438, 439, 440, 441, 442, 443, 444] rfl
set_option maxRecDepth 20000 in
theorem i_wsL_law_r17 : ∀ w ∈ wsL_law_r17, w ∈ lw_tbl := in_r _ [445, 446, 447, 448, 449, 450, 451, 452, 453, 861, 862, 863, 864, 865, 866, 867, 454, 455, 456, 457, 458, 868, 869, 870] rfl
set_option maxRecDepth 20000 in
theorem i_wsL_law_r18 : ∀ w ∈ wsL_law_r18, w ∈ lw_tbl := in_r _ [871, 459, 460, 461, 462, 872, 873, 874, 875, 876, 878, 37, 879, 463, 464, 465, 466, 467, 468, 469, 470, 471, 472, 473] rfl
set_option maxRecDepth 20000 in
theorem i_wsL_law_r19 : ∀ w ∈ wsL_law_r19, w ∈ lw_tbl := in_r _ [474, 880, 881, 882, 883, 475, 476, 477, 478, 479, 480, 481, 482, 483, 484, 485, 486, 487, 488, 884, 885, 886, 887, 888] rfl
set_option maxRecDepth 20000 in
theorem i_wsL_law_r20 : ∀ w ∈ wsL_law_r20, w ∈ lw_tbl := in_r _ [889, 891, 38, 892, 893, 894, 895, 896, 898, 39, 899, 489, 490, 491, 492, 900, 901, 902, 903, 493, 494, 495, 496, 497] rfl
set_option maxRecDepth 20000 in
theorem i_wsL_law_r21 : ∀ w ∈ wsL_law_r21, w ∈ lw_tbl := in_r _ [499, 4, 500, 501, 502, 503, 504, 149, 530, 535, 505, 507, 5, 508, 509, 510, 512, 6, 513, 514, 516, 7, 517, 518] rfl
set_option maxRecDepth 20000 in
theorem i_wsL_law_r22 : ∀ w ∈ wsL_law_r22, w ∈ lw_tbl := in_r _ [520, 8, 521, 522, 524, 9, 525, 526, 528, 10, 529, 531, 533, 11, 534, 536, 538, 12, 539, 540, 542, 13, 543, 544] rfl
set_option maxRecDepth 20000 in
theorem i_wsL_law_r23 : ∀ w ∈ wsL_law_r23, w ∈ lw_tbl := in_r _ [546, 14, 547, 548, 549, 551, 15, 552, 553, 554, 555, 556, 904, 905, 906, 907, 908, 910, 40, 911, 753, 912, 914, 41] rfl
set_option maxRecDepth 20000 in
theorem i_wsL_law_r24 : ∀ w ∈ wsL_law_r24, w ∈ lw_tbl := in_r _ [915, 916, 918, 42, 919, 920, 922, 43, 923, 924, 926, 44, 927, 928, 930, 45, 931, 932, 934, 46, 935, 936, 938, 47] rfl
set_option maxRecDepth 20000 in
theorem i_wsL_law_r25 : ∀ w ∈ wsL_law_r25, w ∈ lw_tbl := in_r _ [939, 940, 942, 48, 943, 557, 558, 559, 560, 944, 945, 946, 947, 561, 562, 563, 564, 120, 948, 949, 950, 951, 565, 566] rfl
set_option maxRecDepth 20000 in
theorem i_wsL_law_r26 : ∀ w ∈ wsL_law_r26, w ∈ lw_tbl := in_r _ [567, 568, 569, 570, 571, 572, 573, 574, 575, 576, 952, 953, 954, 955, 577, 578, 579, 580, 581, 583, 16, 584, 585, 605] rfl
set_option maxRecDepth 20000 in
theorem i_wsL_law_r27 : ∀ w ∈ wsL_law_r27, w ∈ lw_tbl := in_r _ [586, 588, 17, 589, 590, 591, 592, 593, 595, 18, 596, 597, 598, 599, 600, 601, 603, 19, 604, 956, 957, 958, 959, 960] rfl
set_option maxRecDepth 20000 in
theorem i_wsL_law_r28 : ∀ w ∈ wsL_law_r28, w ∈ lw_tbl := in_r _ [962, 49, 963, 964, 965, 966, 967, 968, 969, 606, 607, 608, 609, 610, 612, 20, 613, 614, 616, 21, 617, 618, 619, 621] rfl
set_option maxRecDepth 20000 in
theorem i_wsL_law_r29 : ∀ w ∈ wsL_law_r29, w ∈ lw_tbl := in_r _ [22, 622, 970, 971, 972, 973, 754, 974, 976, 50, 977, 623, 624, 625, 626, 627, 629, 23, 630, 631, 632, 633, 634, 635] rfl
set_option maxRecDepth 20000 in
theorem i_wsL_law_r30 : ∀ w ∈ wsL_law_r30, w ∈ lw_tbl := in_r _ [636, 637, 638, 639, 640, 641, 978, 979, 980, 981, 642, 643, 644, 645, 982, 983, 984, 985, 646, 647, 648, 649, 650, 651] rfl
set_option maxRecDepth 20000 in
theorem i_wsL_law_r31 : ∀ w ∈ wsL_law_r31, w ∈ lw_tbl := in_r _ [652, 653, 654, 655, 656, 658, 24, 659, 660, 662, 25, 663, 179, 664, 666, 26, 667, 668, 669, 670, 671, 673, 27, 674] rfl
set_option maxRecDepth 20000 in
theorem i_wsL_law_r32 : ∀ w ∈ wsL_law_r32, w ∈ lw_tbl := in_r _ [678, 675, 676, 677, 986, 987, 988, 989, 990, 992, 51, 993, 994, 996, 52, 997, 998, 1000, 53, 1001, 1002, 1004, 54, 1005] rfl
set_option maxRecDepth 20000 in
theorem i_wsL_law_r33 : ∀ w ∈ wsL_law_r33, w ∈ lw_tbl := in_r _ [1006, 1008, 55, 1009, 679, 680, 681, 682, 683, 685, 28, 686, 687, 689, 29, 690, 1010, 1011, 1012, 1013, 691, 692, 693, 694] rfl
set_option maxRecDepth 20000 in
theorem i_wsL_law_r34 : ∀ w ∈ wsL_law_r34, w ∈ lw_tbl := in_r _ [695, 697, 30, 698, 699, 700, 701, 702, 704, 31, 705, 706, 708, 32, 709, 710, 712, 33, 713, 1014, 1015, 1016, 1017, 1018] rfl
set_option maxRecDepth 20000 in
theorem i_wsL_law_r35 : ∀ w ∈ wsL_law_r35, w ∈ lw_tbl := in_r _ [1020, 56, 1021, 1022, 1024, 57, 1025, 1026, 1028, 58, 1029, 714, 715, 716, 717, 718, 719, 720, 721, 722, 723, 724, 1030, 1031] rfl
set_option maxRecDepth 20000 in
theorem i_wsL_law_r36 : ∀ w ∈ wsL_law_r36, w ∈ lw_tbl := in_r _ [1032, 1033, 725, 726, 727, 728, 1034, 1035, 1036, 1037, 729, 730, 731, 732, 91, 116, 114, 1038, 1039, 1040, 1041] rfl
set_option maxRecDepth 20000 in
theorem i_wsX00 : ∀ w ∈ wsX00, w ∈ lw_tbl := in_r _ [150, 152, 154, 156, 158, 160, 162, 164, 166] rfl
set_option maxRecDepth 20000 in
theorem i_wsX10 : ∀ w ∈ wsX10, w ∈ lw_tbl := in_r _ [180, 182, 184, 186, 188] rfl
set_option maxRecDepth 20000 in
theorem i_wsX20 : ∀ w ∈ wsX20, w ∈ lw_tbl := in_r _ [121, 123, 125, 127, 129, 131] rfl
set_option maxRecDepth 20000 in
theorem i_wsX30 : ∀ w ∈ wsX30, w ∈ lw_tbl := in_r _ [92, 94, 96] rfl
set_option maxRecDepth 20000 in
theorem i_wsX40 : ∀ w ∈ wsX40, w ∈ lw_tbl := in_r _ [198, 200, 202, 204, 206, 208] rfl
set_option maxRecDepth 20000 in
theorem i_wsX50 : ∀ w ∈ wsX50, w ∈ lw_tbl := in_r _ [761, 763, 765, 767, 769, 771, 773, 775, 777, 779, 781, 783, 785, 787, 789, 791, 793, 795, 797, 799, 801, 803] rfl
theorem i_wsL : ∀ w ∈ wsL_law, w ∈ lw_tbl := by
  unfold wsL_law
  exact List.forall_mem_append.mpr ⟨List.forall_mem_append.mpr ⟨List.forall_mem_append.mpr ⟨List.forall_mem_append.mpr ⟨List.forall_mem_append.mpr ⟨List.forall_mem_append.mpr ⟨List.forall_mem_append.mpr ⟨List.forall_mem_append.mpr ⟨i_wsL_law_r1, List.forall_mem_append.mpr ⟨i_wsL_law_r2, List.forall_mem_append.mpr ⟨i_wsL_law_r3, List.forall_mem_append.mpr ⟨i_wsL_law_r4, List.forall_mem_append.mpr ⟨i_wsL_law_r5, List.forall_mem_append.mpr ⟨i_wsL_law_r6, List.forall_mem_append.mpr ⟨i_wsL_law_r7, List.forall_mem_append.mpr ⟨i_wsL_law_r8, List.forall_mem_append.mpr ⟨i_wsL_law_r9, List.forall_mem_append.mpr ⟨i_wsL_law_r10, List.forall_mem_append.mpr ⟨i_wsL_law_r11, List.forall_mem_append.mpr ⟨i_wsL_law_r12, List.forall_mem_append.mpr ⟨i_wsL_law_r13, List.forall_mem_append.mpr ⟨i_wsL_law_r14, List.forall_mem_append.mpr ⟨i_wsL_law_r15, List.forall_mem_append.mpr ⟨i_wsL_law_r16, List.forall_mem_append.mpr ⟨i_wsL_law_r17, List.forall_mem_append.mpr ⟨i_wsL_law_r18, List.forall_mem_append.mpr ⟨i_wsL_law_r19, List.forall_mem_append.mpr ⟨i_wsL_law_r20, List.forall_mem_append.mpr ⟨i_wsL_law_r21, List.forall_mem_append.mpr ⟨i_wsL_law_r22, List.forall_mem_append.mpr ⟨i_wsL_law_r23, List.forall_mem_append.mpr ⟨i_wsL_law_r24, List.forall_mem_append.mpr ⟨i_wsL_law_r25, List.forall_mem_append.mpr ⟨i_wsL_law_r26, List.forall_mem_append.mpr ⟨i_wsL_law_r27, List.forall_mem_append.mpr ⟨i_wsL_law_r28, List.forall_mem_append.mpr ⟨i_wsL_law_r29, List.forall_mem_append.mpr ⟨i_wsL_law_r30, List.forall_mem_append.mpr ⟨i_wsL_law_r31, List.forall_mem_append.mpr ⟨i_wsL_law_r32, List.forall_mem_append.mpr ⟨i_wsL_law_r33, List.forall_mem_append.mpr ⟨i_wsL_law_r34, List.forall_mem_append.mpr ⟨i_wsL_law_r35, i_wsL_law_r36⟩⟩⟩⟩⟩⟩⟩⟩⟩⟩⟩⟩⟩⟩⟩⟩⟩⟩⟩⟩⟩⟩⟩⟩⟩⟩⟩⟩⟩⟩⟩⟩⟩⟩⟩, i_wsX40⟩, i_wsX50⟩, i_wsX30⟩, i_wsX20⟩, i_wsX00⟩, i_wsX10⟩, fun _ h => absurd h List.not_mem_nil⟩
