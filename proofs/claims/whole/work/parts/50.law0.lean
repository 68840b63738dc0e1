/-! the law's words among the tables', piece by piece -/
theorem mem_r {big : List Cond} (ws : List Cond) (ps : List Nat) (hp : ws = ps.filterMap (fun i => big[i]?)) : ∀ w ∈ ws, w ∈ big := by
  intro w hw
  rw [hp] at hw
  obtain ⟨i, -, hi⟩ := List.mem_filterMap.mp hw
  exact List.mem_of_getElem? hi
theorem mem_a {big a b : List Cond} (ha : ∀ w ∈ a, w ∈ big) (hb : ∀ w ∈ b, w ∈ big) : ∀ w ∈ a ++ b, w ∈ big := fun w h => (List.mem_append.mp h).elim (ha w) (hb w)
set_option maxRecDepth 20000 in
theorem lwin_wsL_law0_r1 : ∀ w ∈ wsL_law0_r1, w ∈ lw_tbl := mem_r wsL_law0_r1 [80, 81, 65, 808, 809, 74, 310, 82, 83, 84, 85, 86, 87, 88, 89, 66, 311, 111, 112, 67, 312, 264, 265, 72] (by decide +kernel)
set_option maxRecDepth 20000 in
theorem lwin_wsL_law0_r2 : ∀ w ∈ wsL_law0_r2, w ∈ lw_tbl := mem_r wsL_law0_r2 [313, 282, 283, 73, 314, 90, 91, 92, 93, 94, 96, 97, 98, 99, 100, 102, 103, 110, 104, 113, 114, 115, 116, 230] (by decide +kernel)
set_option maxRecDepth 20000 in
theorem lwin_wsL_law0_r3 : ∀ w ∈ wsL_law0_r3, w ∈ lw_tbl := mem_r wsL_law0_r3 [117, 231, 119, 68, 149, 232, 151, 69, 197, 198, 70, 233, 213, 214, 71, 234, 120, 121, 122, 123, 124, 152, 153, 154] (by decide +kernel)
set_option maxRecDepth 20000 in
theorem lwin_wsL_law0_r4 : ∀ w ∈ wsL_law0_r4, w ∈ lw_tbl := mem_r wsL_law0_r4 [155, 156, 199, 200, 201, 202, 203, 204, 215, 216, 217, 218, 219, 220, 266, 267, 268, 269, 270, 284, 285, 286, 287, 288] (by decide +kernel)
set_option maxRecDepth 20000 in
theorem lwin_wsL_law0_r5 : ∀ w ∈ wsL_law0_r5, w ∈ lw_tbl := mem_r wsL_law0_r5 [289, 290, 810, 811, 812, 813, 814, 815, 816, 817, 819, 932, 820, 821, 822, 823, 824, 825, 826, 827, 828, 829, 830, 831] (by decide +kernel)
set_option maxRecDepth 20000 in
theorem lwin_wsL_law0_r6 : ∀ w ∈ wsL_law0_r6, w ∈ lw_tbl := mem_r wsL_law0_r6 [832, 834, 835, 837, 845, 850, 851, 324, 325, 326, 327, 328, 329, 330, 331, 335, 337, 333, 334, 937, 938, 939, 940, 847] (by decide +kernel)
set_option maxRecDepth 20000 in
theorem lwin_wsL_law0_r7 : ∀ w ∈ wsL_law0_r7, w ∈ lw_tbl := mem_r wsL_law0_r7 [339, 340, 341, 342, 343, 344, 345, 346, 941, 942, 943, 944, 347, 348, 349, 350, 351, 352, 353, 355, 356, 357, 358, 236] (by decide +kernel)
set_option maxRecDepth 20000 in
theorem lwin_wsL_law0_r8 : ∀ w ∈ wsL_law0_r8, w ∈ lw_tbl := mem_r wsL_law0_r8 [359, 360, 361, 362, 235, 363, 364, 365, 366, 159, 161, 163, 165, 166, 168, 170, 172, 174, 945, 946, 947, 948, 818, 833] (by decide +kernel)
set_option maxRecDepth 20000 in
theorem lwin_wsL_law0_r9 : ∀ w ∈ wsL_law0_r9, w ∈ lw_tbl := mem_r wsL_law0_r9 [367, 368, 369, 370, 371, 372, 373, 374, 376, 377, 378, 379, 205, 949, 950, 951, 952, 836, 380, 381, 382, 383, 384, 385] (by decide +kernel)
set_option maxRecDepth 20000 in
theorem lwin_wsL_law0_r10 : ∀ w ∈ wsL_law0_r10, w ∈ lw_tbl := mem_r wsL_law0_r10 [386, 387, 388, 389, 390, 391, 392, 393, 395, 0, 396, 127, 129, 397, 398, 399, 400, 401, 403, 1, 404, 133, 405, 407] (by decide +kernel)
set_option maxRecDepth 20000 in
theorem lwin_wsL_law0_r11 : ∀ w ∈ wsL_law0_r11, w ∈ lw_tbl := mem_r wsL_law0_r11 [2, 408, 131, 169, 409, 410, 411, 412, 413, 415, 3, 416, 126, 130, 132, 134, 417, 419, 4, 420, 125, 421, 422, 423] (by decide +kernel)
set_option maxRecDepth 20000 in
theorem lwin_wsL_law0_r12 : ∀ w ∈ wsL_law0_r12, w ∈ lw_tbl := mem_r wsL_law0_r12 [424, 128, 425, 426, 427, 428, 221, 429, 430, 75, 431, 432, 434, 5, 435, 175, 167, 158, 436, 437, 438, 439, 440, 442] (by decide +kernel)
set_option maxRecDepth 20000 in
theorem lwin_wsL_law0_r13 : ∀ w ∈ wsL_law0_r13, w ∈ lw_tbl := mem_r wsL_law0_r13 [6, 443, 238, 239, 240, 444, 445, 75, 446, 447, 449, 7, 450, 451, 453, 8, 454, 455, 457, 9, 458, 459, 461, 10] (by decide +kernel)
set_option maxRecDepth 20000 in
theorem lwin_wsL_law0_r14 : ∀ w ∈ wsL_law0_r14, w ∈ lw_tbl := mem_r wsL_law0_r14 [462, 463, 465, 11, 466, 467, 469, 12, 470, 171, 471, 473, 13, 474, 475, 476, 477, 478, 479, 480, 481, 482, 483, 485] (by decide +kernel)
set_option maxRecDepth 20000 in
theorem lwin_wsL_law0_r15 : ∀ w ∈ wsL_law0_r15, w ∈ lw_tbl := mem_r wsL_law0_r15 [14, 486, 487, 489, 15, 490, 160, 491, 492, 493, 494, 495, 496, 497, 498, 499, 501, 16, 502, 503, 505, 17, 506, 135] (by decide +kernel)
set_option maxRecDepth 20000 in
theorem lwin_wsL_law0_r16 : ∀ w ∈ wsL_law0_r16, w ∈ lw_tbl := mem_r wsL_law0_r16 [507, 508, 509, 510, 511, 512, 513, 514, 515, 517, 18, 518, 519, 520, 522, 19, 523, 173, 164, 524, 526, 20, 527, 528] (by decide +kernel)
set_option maxRecDepth 20000 in
theorem lwin_wsL_law0_r17 : ∀ w ∈ wsL_law0_r17, w ∈ lw_tbl := mem_r wsL_law0_r17 [530, 21, 531, 162, 532, 534, 22, 535, 536, 538, 23, 539, 237, 540, 541, 542, 543, 544, 546, 24, 547, 548, 550, 25] (by decide +kernel)
set_option maxRecDepth 20000 in
theorem lwin_wsL_law0_r18 : ∀ w ∈ wsL_law0_r18, w ∈ lw_tbl := mem_r wsL_law0_r18 [551, 552, 554, 26, 555, 556, 558, 27, 559, 560, 562, 28, 563, 564, 565, 567, 29, 568, 569, 570, 571, 572, 957, 958] (by decide +kernel)
set_option maxRecDepth 20000 in
theorem lwin_wsL_law0_r19 : ∀ w ∈ wsL_law0_r19, w ∈ lw_tbl := mem_r wsL_law0_r19 [959, 960, 961, 963, 42, 964, 965, 967, 43, 968, 969, 971, 44, 972, 973, 975, 45, 976, 841, 977, 979, 46, 980, 838] (by decide +kernel)
set_option maxRecDepth 20000 in
theorem lwin_wsL_law0_r20 : ∀ w ∈ wsL_law0_r20, w ∈ lw_tbl := mem_r wsL_law0_r20 [981, 983, 47, 984, 842, 843, 844, 985, 987, 48, 988, 989, 991, 49, 992, 993, 995, 50, 996, 997, 999, 51, 1000, 1001] (by decide +kernel)
set_option maxRecDepth 20000 in
theorem lwin_wsL_law0_r21 : ∀ w ∈ wsL_law0_r21, w ∈ lw_tbl := mem_r wsL_law0_r21 [1003, 52, 1004, 1005, 1007, 53, 1008, 839, 1009, 1011, 54, 1012, 1013, 1015, 55, 1016, 1017, 1019, 56, 1020, 840, 1021, 1023, 57] (by decide +kernel)
set_option maxRecDepth 20000 in
theorem lwin_wsL_law0_r22 : ∀ w ∈ wsL_law0_r22, w ∈ lw_tbl := mem_r wsL_law0_r22 [1024, 1025, 1027, 58, 1028, 573, 574, 575, 576, 577, 578, 579, 580, 581, 582, 583, 584, 585, 586, 587, 588, 589, 590, 591] (by decide +kernel)
set_option maxRecDepth 20000 in
theorem lwin_wsL_law0_r23 : ∀ w ∈ wsL_law0_r23, w ∈ lw_tbl := mem_r wsL_law0_r23 [592, 291, 292, 953, 954, 955, 956, 846, 593, 594, 595, 596, 597, 598, 599, 600, 601, 1029, 1030, 1031, 1032, 1037, 1033, 1035] (by decide +kernel)
set_option maxRecDepth 20000 in
theorem lwin_wsL_law0_r24 : ∀ w ∈ wsL_law0_r24, w ∈ lw_tbl := mem_r wsL_law0_r24 [59, 1036, 602, 603, 604, 605, 606, 607, 608, 609, 610, 611, 612, 613, 157, 1038, 1039, 1040, 1041, 727, 728, 64, 729, 730] (by decide +kernel)
set_option maxRecDepth 20000 in
theorem lwin_wsL_law0_r25 : ∀ w ∈ wsL_law0_r25, w ∈ lw_tbl := mem_r wsL_law0_r25 [731, 732, 733, 734, 739, 79, 735, 736, 737, 738, 800, 801, 802, 803, 804, 806, 41, 807, 1042, 1043, 1044, 1045, 1046, 1048] (by decide +kernel)
set_option maxRecDepth 20000 in
theorem lwin_wsL_law0_r26 : ∀ w ∈ wsL_law0_r26, w ∈ lw_tbl := mem_r wsL_law0_r26 [60, 1049, 933, 934, 935, 936, 614, 615, 616, 617, 618, 619, 620, 621, 622, 623, 624, 625, 626, 1050, 1051, 1052, 1053, 628] (by decide +kernel)
set_option maxRecDepth 20000 in
theorem lwin_wsL_law0_r27 : ∀ w ∈ wsL_law0_r27, w ∈ lw_tbl := mem_r wsL_law0_r27 [629, 630, 631, 635, 272, 274, 632, 633, 634, 636, 637, 638, 639, 271, 273, 650, 640, 642, 30, 643, 644, 646, 31, 647] (by decide +kernel)
set_option maxRecDepth 20000 in
theorem lwin_wsL_law0_r28 : ∀ w ∈ wsL_law0_r28, w ∈ lw_tbl := mem_r wsL_law0_r28 [648, 649, 651, 652, 653, 1054, 1055, 1056, 1057, 848, 849, 1058, 1059, 1060, 1061, 1063, 61, 1064, 1065, 1067, 62, 1068, 1069, 1070] (by decide +kernel)
set_option maxRecDepth 20000 in
theorem lwin_wsL_law0_r29 : ∀ w ∈ wsL_law0_r29, w ∈ lw_tbl := mem_r wsL_law0_r29 [1071, 654, 655, 656, 657, 658, 659, 660, 661, 662, 663, 664, 665, 1072, 1073, 1074, 1075, 1076, 1077, 1078, 666, 667, 668, 669] (by decide +kernel)
set_option maxRecDepth 20000 in
theorem lwin_wsL_law0_r30 : ∀ w ∈ wsL_law0_r30, w ∈ lw_tbl := mem_r wsL_law0_r30 [670, 671, 672, 673, 1079, 1080, 1081, 1082, 675, 676, 677, 678, 1083, 1084, 1085, 1086, 679, 680, 681, 682, 683, 684, 685, 686] (by decide +kernel)
set_option maxRecDepth 20000 in
theorem lwin_wsL_law0_r31 : ∀ w ∈ wsL_law0_r31, w ∈ lw_tbl := mem_r wsL_law0_r31 [293, 294, 687, 689, 32, 690, 691, 693, 33, 694, 695, 697, 34, 698, 699, 701, 35, 702, 703, 705, 36, 706, 707, 709] (by decide +kernel)
set_option maxRecDepth 20000 in
theorem lwin_wsL_law0_r32 : ∀ w ∈ wsL_law0_r32, w ∈ lw_tbl := mem_r wsL_law0_r32 [37, 710, 711, 713, 38, 714, 715, 717, 39, 718, 1087, 1088, 1089, 1090, 852, 1091, 1093, 63, 1094, 719, 720, 721, 722, 723] (by decide +kernel)
set_option maxRecDepth 20000 in
theorem lwin_wsL_law0_r33 : ∀ w ∈ wsL_law0_r33, w ∈ lw_tbl := mem_r wsL_law0_r33 [724, 725, 726, 1095, 1096, 1097, 1098] (by decide +kernel)
set_option maxRecDepth 20000 in
theorem lwin_wsX80 : ∀ w ∈ wsX80, w ∈ lw_tbl := mem_r wsX80 [315, 317, 319, 321] (by decide +kernel)
set_option maxRecDepth 20000 in
theorem lwin_wsX90 : ∀ w ∈ wsX90, w ∈ lw_tbl := mem_r wsX90 [853, 855, 857, 859, 861, 863, 865, 867, 869, 871, 873, 875, 877, 879, 881, 883, 885, 887, 889, 891, 893, 895, 897, 899, 901, 903, 905, 907, 909, 911, 913, 915, 917, 919, 921, 923, 925, 927, 929] (by decide +kernel)
set_option maxRecDepth 20000 in
theorem lwin_wsX70 : ∀ w ∈ wsX70, w ∈ lw_tbl := mem_r wsX70 [105, 107] (by decide +kernel)
set_option maxRecDepth 20000 in
theorem lwin_wsX60 : ∀ w ∈ wsX60, w ∈ lw_tbl := mem_r wsX60 [241, 243, 245, 247, 249, 251, 253, 255, 257, 259, 261] (by decide +kernel)
set_option maxRecDepth 20000 in
theorem lwin_wsX50 : ∀ w ∈ wsX50, w ∈ lw_tbl := mem_r wsX50 [275, 277, 279] (by decide +kernel)
set_option maxRecDepth 20000 in
theorem lwin_wsX20 : ∀ w ∈ wsX20, w ∈ lw_tbl := mem_r wsX20 [295, 297, 299, 301, 303, 305, 307] (by decide +kernel)
set_option maxRecDepth 20000 in
theorem lwin_wsX30 : ∀ w ∈ wsX30, w ∈ lw_tbl := mem_r wsX30 [136, 138, 140, 142, 144, 146] (by decide +kernel)
set_option maxRecDepth 20000 in
theorem lwin_wsX10 : ∀ w ∈ wsX10, w ∈ lw_tbl := mem_r wsX10 [176, 178, 180, 182, 184, 186, 188, 190, 192, 194] (by decide +kernel)
set_option maxRecDepth 20000 in
theorem lwin_wsX00 : ∀ w ∈ wsX00, w ∈ lw_tbl := mem_r wsX00 [206, 208, 210] (by decide +kernel)
set_option maxRecDepth 20000 in
theorem lwin_wsX40 : ∀ w ∈ wsX40, w ∈ lw_tbl := mem_r wsX40 [223, 225, 227] (by decide +kernel)
theorem wsL_law_in0 : ∀ w ∈ wsL_law0, w ∈ lw_tbl := (mem_a (mem_a (mem_a (mem_a (mem_a (mem_a (mem_a (mem_a (mem_a (mem_a (mem_a (mem_a lwin_wsL_law0_r1 (mem_a lwin_wsL_law0_r2 (mem_a lwin_wsL_law0_r3 (mem_a lwin_wsL_law0_r4 (mem_a lwin_wsL_law0_r5 (mem_a lwin_wsL_law0_r6 (mem_a lwin_wsL_law0_r7 (mem_a lwin_wsL_law0_r8 (mem_a lwin_wsL_law0_r9 (mem_a lwin_wsL_law0_r10 (mem_a lwin_wsL_law0_r11 (mem_a lwin_wsL_law0_r12 (mem_a lwin_wsL_law0_r13 (mem_a lwin_wsL_law0_r14 (mem_a lwin_wsL_law0_r15 (mem_a lwin_wsL_law0_r16 (mem_a lwin_wsL_law0_r17 (mem_a lwin_wsL_law0_r18 (mem_a lwin_wsL_law0_r19 (mem_a lwin_wsL_law0_r20 (mem_a lwin_wsL_law0_r21 (mem_a lwin_wsL_law0_r22 (mem_a lwin_wsL_law0_r23 (mem_a lwin_wsL_law0_r24 (mem_a lwin_wsL_law0_r25 (mem_a lwin_wsL_law0_r26 (mem_a lwin_wsL_law0_r27 (mem_a lwin_wsL_law0_r28 (mem_a lwin_wsL_law0_r29 (mem_a lwin_wsL_law0_r30 (mem_a lwin_wsL_law0_r31 (mem_a lwin_wsL_law0_r32 lwin_wsL_law0_r33)))))))))))))))))))))))))))))))) lwin_wsX80) lwin_wsX90) lwin_wsX70) lwin_wsX60) lwin_wsX50) lwin_wsX20) lwin_wsX30) lwin_wsX10) lwin_wsX00) lwin_wsX40) (fun _ h => nomatch h))
theorem wsL_law_x0 : ∀ w ∈ (vx_at0 RX8 91 "java/util/NoSuchElementException" ["java/lang/RuntimeException", "java/lang/Exception"]).filter goodWord, w ∈ lw_tbl := by decide +kernel
theorem wsL_law_in : ∀ w ∈ wsL_law, w ∈ lw_tbl := fun w h => (List.mem_append.mp h).elim (fun h => wsL_law_in0 w h) (fun h => wsL_law_x0 w h)
