/-! the law's words are among the tables', by their places -/
theorem by_pl {big : List Cond} (ws : List Cond) (ps : List Nat) (hp : ws = ps.filterMap (fun i => big[i]?)) : ∀ w ∈ ws, w ∈ big := by
  intro w hw
  rw [hp] at hw
  obtain ⟨i, -, hi⟩ := List.mem_filterMap.mp hw
  exact List.mem_of_getElem? hi
set_option maxRecDepth 20000 in
theorem i_wsL_law_r1 : ∀ w ∈ wsL_law_r1, w ∈ lw_tbl := by_pl _ [58, 59, 47, 617, 618, 54, 60, 61, 62, 63, 64, 65, 66, 68, 48, 177, 86, 87, 49, 178, 104, 105, 50, 179] (by decide +kernel)
set_option maxRecDepth 20000 in
theorem i_wsL_law_r2 : ∀ w ∈ wsL_law_r2, w ∈ lw_tbl := by_pl _ [121, 122, 51, 180, 138, 139, 52, 181, 160, 161, 53, 182, 70, 71, 72, 85, 73, 75, 77, 89, 90, 91, 92, 93] (by decide +kernel)
set_option maxRecDepth 20000 in
theorem i_wsL_law_r3 : ∀ w ∈ wsL_law_r3, w ∈ lw_tbl := by_pl _ [94, 107, 108, 109, 110, 111, 112, 124, 125, 126, 127, 129, 131, 141, 142, 143, 145, 146, 148, 144, 150, 163, 164, 165] (by decide +kernel)
set_option maxRecDepth 20000 in
theorem i_wsL_law_r4 : ∀ w ∈ wsL_law_r4, w ∈ lw_tbl := by_pl _ [166, 167, 168, 619, 620, 621, 622, 625, 626, 627, 631, 632, 633, 634, 637, 638, 639, 640, 643, 645, 649, 650, 205, 206] (by decide +kernel)
set_option maxRecDepth 20000 in
theorem i_wsL_law_r5 : ∀ w ∈ wsL_law_r5, w ∈ lw_tbl := by_pl _ [207, 208, 185, 183, 209, 211, 0, 212, 213, 214, 215, 216, 217, 218, 219, 220, 221, 222, 223, 224, 225, 226, 227, 228] (by decide +kernel)
set_option maxRecDepth 20000 in
theorem i_wsL_law_r6 : ∀ w ∈ wsL_law_r6, w ∈ lw_tbl := by_pl _ [230, 1, 231, 232, 233, 234, 235, 236, 237, 238, 239, 240, 241, 242, 243, 244, 245, 246, 247, 248, 249, 250, 251, 252] (by decide +kernel)
set_option maxRecDepth 20000 in
theorem i_wsL_law_r7 : ∀ w ∈ wsL_law_r7, w ∈ lw_tbl := by_pl _ [253, 254, 55, 255, 256, 257, 258, 259, 260, 261, 262, 263, 264, 265, 266, 267, 268, 269, 270, 271, 272, 708, 709, 710] (by decide +kernel)
set_option maxRecDepth 20000 in
theorem i_wsL_law_r8 : ∀ w ∈ wsL_law_r8, w ∈ lw_tbl := by_pl _ [711, 623, 635, 636, 628, 629, 630, 648, 712, 713, 714, 715, 716, 717, 718, 719, 720, 721, 723, 14, 724, 725, 727, 15] (by decide +kernel)
set_option maxRecDepth 20000 in
theorem i_wsL_law_r9 : ∀ w ∈ wsL_law_r9, w ∈ lw_tbl := by_pl _ [728, 729, 731, 16, 732, 733, 735, 17, 736, 737, 739, 18, 740, 273, 274, 275, 276, 277, 278, 279, 280, 281, 282, 283] (by decide +kernel)
set_option maxRecDepth 20000 in
theorem i_wsL_law_r10 : ∀ w ∈ wsL_law_r10, w ∈ lw_tbl := by_pl _ [284, 285, 286, 287, 288, 289, 290, 291, 292, 293, 294, 295, 296, 297, 298, 299, 300, 301, 303, 2, 304, 305, 306, 307] (by decide +kernel)
set_option maxRecDepth 20000 in
theorem i_wsL_law_r11 : ∀ w ∈ wsL_law_r11, w ∈ lw_tbl := by_pl _ [308, 309, 310, 311, 312, 313, 314, 315, 316, 317, 741, 742, 743, 744, 745, 747, 19, 748, 749, 751, 20, 752, 753, 755] (by decide +kernel)
set_option maxRecDepth 20000 in
theorem i_wsL_law_r12 : ∀ w ∈ wsL_law_r12, w ∈ lw_tbl := by_pl _ [21, 756, 757, 758, 759, 760, 762, 22, 763, 764, 766, 23, 767, 318, 319, 320, 321, 322, 323, 324, 325, 768, 769, 770] (by decide +kernel)
set_option maxRecDepth 20000 in
theorem i_wsL_law_r13 : ∀ w ∈ wsL_law_r13, w ∈ lw_tbl := by_pl _ [771, 326, 327, 328, 329, 330, 331, 332, 333, 334, 335, 336, 337, 338, 339, 56, 340, 341, 342, 343, 344, 345, 346, 347] (by decide +kernel)
set_option maxRecDepth 20000 in
theorem i_wsL_law_r14 : ∀ w ∈ wsL_law_r14, w ∈ lw_tbl := by_pl _ [348, 349, 350, 351, 352, 353, 354, 355, 356, 772, 773, 774, 775, 776, 778, 24, 779, 780, 781, 782, 783, 785, 25, 786] (by decide +kernel)
set_option maxRecDepth 20000 in
theorem i_wsL_law_r15 : ∀ w ∈ wsL_law_r15, w ∈ lw_tbl := by_pl _ [787, 789, 26, 790, 357, 358, 359, 360, 361, 362, 363, 364, 365, 366, 367, 368, 369, 370, 371, 791, 792, 793, 794, 795] (by decide +kernel)
set_option maxRecDepth 20000 in
theorem i_wsL_law_r16 : ∀ w ∈ wsL_law_r16, w ∈ lw_tbl := by_pl _ [797, 27, 798, 799, 801, 28, 802, 372, 373, 374, 375, 376, 377, 378, 379, 803, 804, 805, 806, 380, 381, 382, 383, 807] (by decide +kernel)
set_option maxRecDepth 20000 in
theorem i_wsL_law_r17 : ∀ w ∈ wsL_law_r17, w ∈ lw_tbl := by_pl _ [808, 809, 810, 384, 385, 386, 387, 388, 389, 390, 391, 392, 393, 394, 395, 396, 811, 812, 813, 814, 815, 817, 29, 818] (by decide +kernel)
set_option maxRecDepth 20000 in
theorem i_wsL_law_r18 : ∀ w ∈ wsL_law_r18, w ∈ lw_tbl := by_pl _ [819, 821, 30, 822, 397, 398, 399, 400, 401, 402, 403, 404, 823, 824, 825, 826, 827, 829, 31, 830, 405, 406, 407, 408] (by decide +kernel)
set_option maxRecDepth 20000 in
theorem i_wsL_law_r19 : ∀ w ∈ wsL_law_r19, w ∈ lw_tbl := by_pl _ [409, 410, 411, 412, 413, 414, 415, 416, 417, 418, 419, 420, 421, 423, 3, 424, 425, 426, 427, 429, 4, 430, 431, 432] (by decide +kernel)
set_option maxRecDepth 20000 in
theorem i_wsL_law_r20 : ∀ w ∈ wsL_law_r20, w ∈ lw_tbl := by_pl _ [433, 434, 435, 437, 5, 438, 439, 440, 441, 442, 443, 444, 831, 832, 833, 834, 835, 837, 32, 838, 641, 839, 841, 33] (by decide +kernel)
set_option maxRecDepth 20000 in
theorem i_wsL_law_r21 : ∀ w ∈ wsL_law_r21, w ∈ lw_tbl := by_pl _ [842, 642, 843, 845, 34, 846, 847, 849, 35, 850, 851, 853, 36, 854, 445, 446, 447, 448, 449, 450, 451, 452, 855, 856] (by decide +kernel)
set_option maxRecDepth 20000 in
theorem i_wsL_law_r22 : ∀ w ∈ wsL_law_r22, w ∈ lw_tbl := by_pl _ [857, 858, 453, 454, 455, 456, 457, 458, 459, 460, 461, 462, 464, 6, 465, 466, 467, 469, 7, 470, 471, 472, 473, 474] (by decide +kernel)
set_option maxRecDepth 20000 in
theorem i_wsL_law_r23 : ∀ w ∈ wsL_law_r23, w ∈ lw_tbl := by_pl _ [475, 476, 477, 478, 479, 480, 481, 482, 483, 484, 485, 859, 860, 861, 862, 646, 647, 863, 865, 37, 866, 644, 867, 869] (by decide +kernel)
set_option maxRecDepth 20000 in
theorem i_wsL_law_r24 : ∀ w ∈ wsL_law_r24, w ∈ lw_tbl := by_pl _ [38, 870, 871, 873, 39, 874, 875, 877, 40, 878, 879, 880, 881, 882, 883, 884, 885, 886, 887, 888, 890, 41, 891, 486] (by decide +kernel)
set_option maxRecDepth 20000 in
theorem i_wsL_law_r25 : ∀ w ∈ wsL_law_r25, w ∈ lw_tbl := by_pl _ [487, 488, 489, 490, 492, 8, 493, 494, 892, 893, 894, 895, 495, 496, 497, 498, 499, 501, 9, 502, 896, 897, 898, 899] (by decide +kernel)
set_option maxRecDepth 20000 in
theorem i_wsL_law_r26 : ∀ w ∈ wsL_law_r26, w ∈ lw_tbl := by_pl _ [900, 902, 42, 903, 503, 504, 505, 506, 507, 508, 509, 510, 904, 905, 906, 907, 511, 512, 513, 514, 908, 909, 910, 911] (by decide +kernel)
set_option maxRecDepth 20000 in
theorem i_wsL_law_r27 : ∀ w ∈ wsL_law_r27, w ∈ lw_tbl := by_pl _ [515, 516, 517, 518, 519, 520, 521, 522, 523, 524, 912, 913, 914, 915, 916, 918, 43, 919, 525, 526, 527, 528, 920, 921] (by decide +kernel)
set_option maxRecDepth 20000 in
theorem i_wsL_law_r28 : ∀ w ∈ wsL_law_r28, w ∈ lw_tbl := by_pl _ [922, 923, 529, 530, 531, 532, 533, 534, 535, 536, 537, 924, 925, 926, 927, 928, 929, 930, 931, 538, 539, 540, 541, 542] (by decide +kernel)
set_option maxRecDepth 20000 in
theorem i_wsL_law_r29 : ∀ w ∈ wsL_law_r29, w ∈ lw_tbl := by_pl _ [543, 544, 545, 546, 547, 932, 933, 934, 935, 548, 549, 550, 551, 552, 553, 554, 555, 556, 936, 937, 938, 939, 557, 558] (by decide +kernel)
set_option maxRecDepth 20000 in
theorem i_wsL_law_r30 : ∀ w ∈ wsL_law_r30, w ∈ lw_tbl := by_pl _ [559, 560, 561, 562, 563, 564, 565, 940, 941, 942, 943, 566, 567, 568, 569, 944, 945, 946, 947, 948, 950, 44, 951, 570] (by decide +kernel)
set_option maxRecDepth 20000 in
theorem i_wsL_law_r31 : ∀ w ∈ wsL_law_r31, w ∈ lw_tbl := by_pl _ [571, 572, 573, 574, 576, 575, 57, 952, 953, 954, 955, 577, 578, 579, 580, 581, 583, 10, 584, 585, 587, 11, 588, 184] (by decide +kernel)
set_option maxRecDepth 20000 in
theorem i_wsL_law_r32 : ∀ w ∈ wsL_law_r32, w ∈ lw_tbl := by_pl _ [589, 591, 12, 592, 593, 595, 13, 596, 956, 957, 958, 959, 960, 962, 45, 963, 624, 597, 598, 599, 600, 964, 965, 966] (by decide +kernel)
set_option maxRecDepth 20000 in
theorem i_wsL_law_r33 : ∀ w ∈ wsL_law_r33, w ∈ lw_tbl := by_pl _ [967, 601, 602, 603, 604, 968, 969, 970, 971, 605, 606, 607, 608, 972, 973, 974, 975, 609, 610, 611, 612, 976, 977, 978] (by decide +kernel)
set_option maxRecDepth 20000 in
theorem i_wsL_law_r34 : ∀ w ∈ wsL_law_r34, w ∈ lw_tbl := by_pl _ [979, 613, 614, 615, 616, 980, 981, 982, 983] (by decide +kernel)
set_option maxRecDepth 20000 in
theorem i_wsX60 : ∀ w ∈ wsX60, w ∈ lw_tbl := by_pl _ [186, 188, 190, 192, 194, 196, 198, 200, 202] (by decide +kernel)
set_option maxRecDepth 20000 in
theorem i_wsX70 : ∀ w ∈ wsX70, w ∈ lw_tbl := by_pl _ [651, 653, 655, 657, 659, 661, 663, 665, 667, 669, 671, 673, 675, 677, 679, 681, 683, 685, 687, 689, 691, 693, 695, 697, 699, 701, 703, 705] (by decide +kernel)
set_option maxRecDepth 20000 in
theorem i_wsX40 : ∀ w ∈ wsX40, w ∈ lw_tbl := by_pl _ [78, 80, 82] (by decide +kernel)
set_option maxRecDepth 20000 in
theorem i_wsX10 : ∀ w ∈ wsX10, w ∈ lw_tbl := by_pl _ [97, 99, 101] (by decide +kernel)
set_option maxRecDepth 20000 in
theorem i_wsX50 : ∀ w ∈ wsX50, w ∈ lw_tbl := by_pl _ [114, 116, 118] (by decide +kernel)
set_option maxRecDepth 20000 in
theorem i_wsX30 : ∀ w ∈ wsX30, w ∈ lw_tbl := by_pl _ [133, 135] (by decide +kernel)
set_option maxRecDepth 20000 in
theorem i_wsX00 : ∀ w ∈ wsX00, w ∈ lw_tbl := by_pl _ [151, 153, 155, 157] (by decide +kernel)
set_option maxRecDepth 20000 in
theorem i_wsX20 : ∀ w ∈ wsX20, w ∈ lw_tbl := by_pl _ [170, 172, 174] (by decide +kernel)
theorem wsL_law_in : ∀ w ∈ wsL_law, w ∈ lw_tbl := by
  unfold wsL_law
  exact List.forall_mem_append.mpr ⟨List.forall_mem_append.mpr ⟨List.forall_mem_append.mpr ⟨List.forall_mem_append.mpr ⟨List.forall_mem_append.mpr ⟨List.forall_mem_append.mpr ⟨List.forall_mem_append.mpr ⟨List.forall_mem_append.mpr ⟨List.forall_mem_append.mpr ⟨List.forall_mem_append.mpr ⟨i_wsL_law_r1, List.forall_mem_append.mpr ⟨i_wsL_law_r2, List.forall_mem_append.mpr ⟨i_wsL_law_r3, List.forall_mem_append.mpr ⟨i_wsL_law_r4, List.forall_mem_append.mpr ⟨i_wsL_law_r5, List.forall_mem_append.mpr ⟨i_wsL_law_r6, List.forall_mem_append.mpr ⟨i_wsL_law_r7, List.forall_mem_append.mpr ⟨i_wsL_law_r8, List.forall_mem_append.mpr ⟨i_wsL_law_r9, List.forall_mem_append.mpr ⟨i_wsL_law_r10, List.forall_mem_append.mpr ⟨i_wsL_law_r11, List.forall_mem_append.mpr ⟨i_wsL_law_r12, List.forall_mem_append.mpr ⟨i_wsL_law_r13, List.forall_mem_append.mpr ⟨i_wsL_law_r14, List.forall_mem_append.mpr ⟨i_wsL_law_r15, List.forall_mem_append.mpr ⟨i_wsL_law_r16, List.forall_mem_append.mpr ⟨i_wsL_law_r17, List.forall_mem_append.mpr ⟨i_wsL_law_r18, List.forall_mem_append.mpr ⟨i_wsL_law_r19, List.forall_mem_append.mpr ⟨i_wsL_law_r20, List.forall_mem_append.mpr ⟨i_wsL_law_r21, List.forall_mem_append.mpr ⟨i_wsL_law_r22, List.forall_mem_append.mpr ⟨i_wsL_law_r23, List.forall_mem_append.mpr ⟨i_wsL_law_r24, List.forall_mem_append.mpr ⟨i_wsL_law_r25, List.forall_mem_append.mpr ⟨i_wsL_law_r26, List.forall_mem_append.mpr ⟨i_wsL_law_r27, List.forall_mem_append.mpr ⟨i_wsL_law_r28, List.forall_mem_append.mpr ⟨i_wsL_law_r29, List.forall_mem_append.mpr ⟨i_wsL_law_r30, List.forall_mem_append.mpr ⟨i_wsL_law_r31, List.forall_mem_append.mpr ⟨i_wsL_law_r32, List.forall_mem_append.mpr ⟨i_wsL_law_r33, i_wsL_law_r34⟩⟩⟩⟩⟩⟩⟩⟩⟩⟩⟩⟩⟩⟩⟩⟩⟩⟩⟩⟩⟩⟩⟩⟩⟩⟩⟩⟩⟩⟩⟩⟩⟩, i_wsX60⟩, i_wsX70⟩, i_wsX40⟩, i_wsX10⟩, i_wsX50⟩, i_wsX30⟩, i_wsX00⟩, i_wsX20⟩, fun _ h => absurd h List.not_mem_nil⟩
