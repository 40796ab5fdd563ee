theorem lin_r {big ws : List Cond} (ps : List Nat) (hp : ws = ps.filterMap (fun i => big[i]?)) : ∀ w ∈ ws, w ∈ big := by
  intro w hw
  rw [hp] at hw
  obtain ⟨i, -, hi⟩ := List.mem_filterMap.mp hw
  first | exact List.mem_of_getElem? hi | exact List.getElem?_mem hi
theorem lin_1 : ∀ w ∈ wsL_law_r1, w ∈ lw_tbl := lin_r [75, 76, 59, 725, 726, 65, 1149, 77, 78, 79, 80, 81, 82, 83, 84, 60, 205, 206, 207, 132, 133, 62, 208, 158] (by decide +kernel)
theorem lin_2 : ∀ w ∈ wsL_law_r2, w ∈ lw_tbl := lin_r [159, 63, 209, 184, 210, 131, 211, 186, 64, 85, 86, 87, 88, 92, 95, 98, 100, 103, 105, 109, 112, 89, 90, 61] (by decide +kernel)
theorem lin_3 : ∀ w ∈ wsL_law_r3, w ∈ lw_tbl := lin_r [91, 135, 136, 137, 138, 139, 141, 143, 145, 161, 162, 163, 164, 165, 188, 189, 190, 204, 191, 193, 195, 727, 728, 729] (by decide +kernel)
theorem lin_4 : ∀ w ∈ wsL_law_r4, w ∈ lw_tbl := lin_r [730, 731, 732, 733, 735, 736, 737, 738, 745, 746, 747, 230, 231, 232, 233, 237, 96, 234, 235, 236, 238, 240, 0, 241] (by decide +kernel)
theorem lin_5 : ∀ w ∈ wsL_law_r5, w ∈ lw_tbl := lin_r [783, 784, 785, 786, 797, 787, 788, 789, 790, 791, 792, 793, 795, 19, 796, 798, 800, 20, 801, 242, 243, 244, 245, 101] (by decide +kernel)
theorem lin_6 : ∀ w ∈ wsL_law_r6, w ∈ lw_tbl := lin_r [246, 247, 248, 249, 250, 251, 802, 803, 804, 805, 806, 807, 808, 252, 253, 254, 255, 809, 810, 811, 812, 256, 257, 258] (by decide +kernel)
theorem lin_7 : ∀ w ∈ wsL_law_r7, w ∈ lw_tbl := lin_r [259, 263, 104, 260, 261, 262, 264, 265, 266, 813, 814, 815, 816, 820, 817, 818, 819, 267, 268, 269, 270, 94, 108, 271] (by decide +kernel)
theorem lin_8 : ∀ w ∈ wsL_law_r8, w ∈ lw_tbl := lin_r [272, 273, 274, 275, 276, 277, 278, 821, 822, 823, 824, 279, 280, 281, 282, 283, 284, 66, 285, 825, 826, 827, 828, 829] (by decide +kernel)
theorem lin_9 : ∀ w ∈ wsL_law_r9, w ∈ lw_tbl := lin_r [831, 21, 832, 286, 287, 288, 289, 99, 293, 290, 291, 292, 294, 295, 296, 297, 833, 834, 835, 836, 837, 838, 840, 22] (by decide +kernel)
theorem lin_10 : ∀ w ∈ wsL_law_r10, w ∈ lw_tbl := lin_r [841, 298, 299, 300, 301, 111, 113, 302, 304, 1, 305, 306, 307, 308, 309, 842, 843, 844, 845, 846, 848, 23, 849, 850] (by decide +kernel)
theorem lin_11 : ∀ w ∈ wsL_law_r11, w ∈ lw_tbl := lin_r [852, 24, 853, 310, 311, 312, 313, 854, 855, 856, 857, 314, 315, 316, 317, 324, 318, 319, 67, 320, 322, 858, 859, 860] (by decide +kernel)
theorem lin_12 : ∀ w ∈ wsL_law_r12, w ∈ lw_tbl := lin_r [861, 862, 325, 326, 327, 328, 863, 864, 865, 866, 329, 330, 331, 332, 867, 868, 869, 870, 333, 334, 335, 336, 337, 338] (by decide +kernel)
theorem lin_13 : ∀ w ∈ wsL_law_r13, w ∈ lw_tbl := lin_r [339, 340, 341, 342, 343, 344, 345, 346, 347, 348, 349, 350, 351, 352, 353, 354, 355, 356, 68, 357, 358, 359, 360, 361] (by decide +kernel)
theorem lin_14 : ∀ w ∈ wsL_law_r14, w ∈ lw_tbl := lin_r [362, 363, 364, 871, 872, 873, 874, 875, 877, 25, 878, 879, 881, 26, 882, 883, 885, 27, 886, 887, 888, 889, 890, 891] (by decide +kernel)
theorem lin_15 : ∀ w ∈ wsL_law_r15, w ∈ lw_tbl := lin_r [892, 893, 894, 895, 896, 897, 898, 365, 366, 367, 368, 369, 370, 371, 372, 373, 374, 375, 376, 377, 378, 379, 380, 381] (by decide +kernel)
theorem lin_16 : ∀ w ∈ wsL_law_r16, w ∈ lw_tbl := lin_r [382, 383, 899, 900, 901, 902, 903, 905, 28, 906, 907, 909, 29, 910, 911, 913, 30, 914, 915, 917, 31, 918, 919, 921] (by decide +kernel)
theorem lin_17 : ∀ w ∈ wsL_law_r17, w ∈ lw_tbl := lin_r [32, 922, 384, 385, 386, 387, 392, 140, 142, 144, 146, 388, 389, 390, 391, 393, 394, 395, 396, 93, 397, 398, 400, 2] (by decide +kernel)
theorem lin_18 : ∀ w ∈ wsL_law_r18, w ∈ lw_tbl := lin_r [401, 110, 106, 402, 403, 404, 405, 406, 923, 924, 925, 926, 931, 927, 929, 33, 930, 932, 934, 34, 935, 407, 408, 409] (by decide +kernel)
theorem lin_19 : ∀ w ∈ wsL_law_r19, w ∈ lw_tbl := lin_r [410, 411, 412, 413, 414, 936, 937, 938, 939, 415, 416, 417, 418, 419, 420, 421, 422, 423, 424, 425, 426, 427, 428, 429] (by decide +kernel)
theorem lin_20 : ∀ w ∈ wsL_law_r20, w ∈ lw_tbl := lin_r [430, 432, 3, 433, 434, 435, 69, 436, 437, 439, 4, 440, 442, 441, 443, 444, 445, 446, 447, 448, 449, 450, 451, 452] (by decide +kernel)
theorem lin_21 : ∀ w ∈ wsL_law_r21, w ∈ lw_tbl := lin_r [454, 5, 455, 456, 940, 941, 942, 943, 944, 946, 35, 947, 948, 950, 36, 951, 952, 954, 37, 955, 956, 957, 958, 959] (by decide +kernel)
theorem lin_22 : ∀ w ∈ wsL_law_r22, w ∈ lw_tbl := lin_r [961, 38, 962, 457, 458, 459, 460, 461, 463, 6, 464, 465, 466, 467, 468, 469, 471, 470, 70, 963, 964, 965, 966, 967] (by decide +kernel)
theorem lin_23 : ∀ w ∈ wsL_law_r23, w ∈ lw_tbl := lin_r [969, 39, 970, 971, 972, 973, 974, 976, 40, 977, 472, 473, 474, 475, 476, 978, 979, 980, 981, 477, 478, 479, 480, 481] (by decide +kernel)
theorem lin_24 : ∀ w ∈ wsL_law_r24, w ∈ lw_tbl := lin_r [982, 983, 984, 985, 986, 482, 483, 484, 485, 987, 988, 989, 990, 486, 487, 488, 489, 991, 992, 993, 994, 995, 997, 41] (by decide +kernel)
theorem lin_25 : ∀ w ∈ wsL_law_r25, w ∈ lw_tbl := lin_r [998, 999, 1001, 42, 1002, 490, 491, 492, 493, 494, 496, 7, 497, 1003, 1004, 1005, 1006, 498, 499, 500, 501, 1011, 1012, 1013] (by decide +kernel)
theorem lin_26 : ∀ w ∈ wsL_law_r26, w ∈ lw_tbl := lin_r [1014, 502, 503, 504, 505, 506, 508, 8, 509, 1015, 1016, 1017, 1018, 510, 511, 512, 513, 1007, 1008, 1009, 1010, 514, 515, 516] (by decide +kernel)
theorem lin_27 : ∀ w ∈ wsL_law_r27, w ∈ lw_tbl := lin_r [517, 1019, 1020, 1021, 1022, 518, 519, 520, 521, 166, 522, 523, 524, 525, 1023, 1024, 1025, 1026, 739, 526, 527, 528, 529, 1027] (by decide +kernel)
theorem lin_28 : ∀ w ∈ wsL_law_r28, w ∈ lw_tbl := lin_r [1028, 1029, 1030, 530, 531, 532, 533, 534, 535, 536, 537, 169, 168, 167, 538, 540, 9, 541, 542, 543, 544, 545, 547, 10] (by decide +kernel)
theorem lin_29 : ∀ w ∈ wsL_law_r29, w ∈ lw_tbl := lin_r [548, 549, 550, 551, 552, 554, 11, 555, 170, 556, 557, 559, 12, 560, 561, 562, 563, 570, 572, 13, 573, 574, 575, 576] (by decide +kernel)
theorem lin_30 : ∀ w ∈ wsL_law_r30, w ∈ lw_tbl := lin_r [71, 577, 1150, 578, 579, 580, 581, 582, 1151, 584, 585, 586, 587, 588, 589, 590, 591, 592, 593, 72, 594, 595, 596, 597] (by decide +kernel)
theorem lin_31 : ∀ w ∈ wsL_law_r31, w ∈ lw_tbl := lin_r [598, 600, 601, 73, 602, 603, 604, 74, 605, 606, 607, 608, 609, 610, 611, 612, 613, 614, 615, 616, 618, 620, 622, 624] (by decide +kernel)
theorem lin_32 : ∀ w ∈ wsL_law_r32, w ∈ lw_tbl := lin_r [14, 625, 107, 626, 630, 632, 15, 633, 97, 636, 638, 16, 639, 102, 1031, 1032, 1033, 1034, 742, 744, 740, 741, 1035, 1037] (by decide +kernel)
theorem lin_33 : ∀ w ∈ wsL_law_r33, w ∈ lw_tbl := lin_r [43, 1038, 743, 1039, 1041, 44, 1042, 1043, 1045, 45, 1046, 1047, 1049, 46, 1050, 1051, 1053, 1055, 47, 1056, 1057, 1059, 48, 1060] (by decide +kernel)
theorem lin_34 : ∀ w ∈ wsL_law_r34, w ∈ lw_tbl := lin_r [1061, 1063, 49, 1064, 1065, 1067, 50, 1068, 1069, 1071, 51, 1072, 1073, 1075, 52, 1076, 1077, 1079, 53, 1080, 643, 644, 645, 646] (by decide +kernel)
theorem lin_35 : ∀ w ∈ wsL_law_r35, w ∈ lw_tbl := lin_r [650, 196, 647, 648, 649, 651, 652, 653, 654, 655, 656, 657, 1081, 1082, 1083, 1084, 1088, 1085, 1086, 1087, 658, 659, 660, 661] (by decide +kernel)
theorem lin_36 : ∀ w ∈ wsL_law_r36, w ∈ lw_tbl := lin_r [192, 662, 664, 17, 665, 670, 666, 667, 668, 669, 671, 672, 673, 674, 1089, 1090, 1091, 1092, 1093, 1095, 54, 1096, 1097, 1098] (by decide +kernel)
theorem lin_37 : ∀ w ∈ wsL_law_r37, w ∈ lw_tbl := lin_r [1099, 1100, 675, 676, 677, 678, 194, 683, 679, 680, 681, 682, 1101, 1102, 1103, 1104, 1105, 1107, 55, 1108, 684, 685, 686, 687] (by decide +kernel)
theorem lin_38 : ∀ w ∈ wsL_law_r38, w ∈ lw_tbl := lin_r [688, 1109, 1110, 1111, 1112, 689, 690, 691, 692, 1113, 1114, 1115, 1116, 693, 694, 695, 696, 697, 699, 18, 700, 1117, 1118, 1119] (by decide +kernel)
theorem lin_39 : ∀ w ∈ wsL_law_r39, w ∈ lw_tbl := lin_r [1120, 1121, 1123, 56, 1124, 701, 702, 703, 704, 212, 1125, 1126, 1127, 1128, 734, 705, 706, 707, 708, 1129, 1130, 1131, 1132, 709] (by decide +kernel)
theorem lin_40 : ∀ w ∈ wsL_law_r40, w ∈ lw_tbl := lin_r [710, 711, 712, 1133, 1134, 1135, 1136, 713, 714, 715, 716, 717, 718, 719, 720, 1137, 1138, 1139, 1140, 1141, 1143, 57, 1144, 721] (by decide +kernel)
theorem lin_41 : ∀ w ∈ wsL_law_r41, w ∈ lw_tbl := lin_r [722, 723, 724, 1145, 1146, 1147, 1148] (by decide +kernel)
theorem lin_w60 : ∀ w ∈ wsX60, w ∈ lw_tbl := by decide +kernel
theorem lin_w70 : ∀ w ∈ wsX70, w ∈ lw_tbl := by decide +kernel
theorem lin_w40 : ∀ w ∈ wsX40, w ∈ lw_tbl := by decide +kernel
theorem lin_w10 : ∀ w ∈ wsX10, w ∈ lw_tbl := by decide +kernel
theorem lin_w50 : ∀ w ∈ wsX50, w ∈ lw_tbl := by decide +kernel
theorem lin_w30 : ∀ w ∈ wsX30, w ∈ lw_tbl := by decide +kernel
theorem wsL_law_in : ∀ w ∈ wsL_law, w ∈ lw_tbl := by
  intro w h
  rcases List.mem_append.mp h with h | h
  case inr => exact absurd h List.not_mem_nil
  rcases List.mem_append.mp h with h | h
  case inr => exact lin_w30 w h
  rcases List.mem_append.mp h with h | h
  case inr => exact lin_w50 w h
  rcases List.mem_append.mp h with h | h
  case inr => exact lin_w10 w h
  rcases List.mem_append.mp h with h | h
  case inr => exact lin_w40 w h
  rcases List.mem_append.mp h with h | h
  case inr => exact lin_w70 w h
  rcases List.mem_append.mp h with h | h
  case inr => exact lin_w60 w h
  rcases List.mem_append.mp h with h | h
  case inl => exact lin_1 w h
  rcases List.mem_append.mp h with h | h
  case inl => exact lin_2 w h
  rcases List.mem_append.mp h with h | h
  case inl => exact lin_3 w h
  rcases List.mem_append.mp h with h | h
  case inl => exact lin_4 w h
  rcases List.mem_append.mp h with h | h
  case inl => exact lin_5 w h
  rcases List.mem_append.mp h with h | h
  case inl => exact lin_6 w h
  rcases List.mem_append.mp h with h | h
  case inl => exact lin_7 w h
  rcases List.mem_append.mp h with h | h
  case inl => exact lin_8 w h
  rcases List.mem_append.mp h with h | h
  case inl => exact lin_9 w h
  rcases List.mem_append.mp h with h | h
  case inl => exact lin_10 w h
  rcases List.mem_append.mp h with h | h
  case inl => exact lin_11 w h
  rcases List.mem_append.mp h with h | h
  case inl => exact lin_12 w h
  rcases List.mem_append.mp h with h | h
  case inl => exact lin_13 w h
  rcases List.mem_append.mp h with h | h
  case inl => exact lin_14 w h
  rcases List.mem_append.mp h with h | h
  case inl => exact lin_15 w h
  rcases List.mem_append.mp h with h | h
  case inl => exact lin_16 w h
  rcases List.mem_append.mp h with h | h
  case inl => exact lin_17 w h
  rcases List.mem_append.mp h with h | h
  case inl => exact lin_18 w h
  rcases List.mem_append.mp h with h | h
  case inl => exact lin_19 w h
  rcases List.mem_append.mp h with h | h
  case inl => exact lin_20 w h
  rcases List.mem_append.mp h with h | h
  case inl => exact lin_21 w h
  rcases List.mem_append.mp h with h | h
  case inl => exact lin_22 w h
  rcases List.mem_append.mp h with h | h
  case inl => exact lin_23 w h
  rcases List.mem_append.mp h with h | h
  case inl => exact lin_24 w h
  rcases List.mem_append.mp h with h | h
  case inl => exact lin_25 w h
  rcases List.mem_append.mp h with h | h
  case inl => exact lin_26 w h
  rcases List.mem_append.mp h with h | h
  case inl => exact lin_27 w h
  rcases List.mem_append.mp h with h | h
  case inl => exact lin_28 w h
  rcases List.mem_append.mp h with h | h
  case inl => exact lin_29 w h
  rcases List.mem_append.mp h with h | h
  case inl => exact lin_30 w h
  rcases List.mem_append.mp h with h | h
  case inl => exact lin_31 w h
  rcases List.mem_append.mp h with h | h
  case inl => exact lin_32 w h
  rcases List.mem_append.mp h with h | h
  case inl => exact lin_33 w h
  rcases List.mem_append.mp h with h | h
  case inl => exact lin_34 w h
  rcases List.mem_append.mp h with h | h
  case inl => exact lin_35 w h
  rcases List.mem_append.mp h with h | h
  case inl => exact lin_36 w h
  rcases List.mem_append.mp h with h | h
  case inl => exact lin_37 w h
  rcases List.mem_append.mp h with h | h
  case inl => exact lin_38 w h
  rcases List.mem_append.mp h with h | h
  case inl => exact lin_39 w h
  rcases List.mem_append.mp h with h | h
  case inl => exact lin_40 w h
  exact lin_41 w h
theorem inX0 : ∀ w ∈ wsX00, w ∈ lw_tbl := by decide +kernel
theorem inlX1 : ∀ w ∈ wsX10, w ∈ wsL_law := fun _ h => List.mem_append_left _ (List.mem_append_left _ (List.mem_append_left _ (List.mem_append_right _ h)))
theorem inX1 : ∀ w ∈ wsX10, w ∈ lw_tbl := fun w h => wsL_law_in w (inlX1 w h)
theorem inX2 : ∀ w ∈ wsX20, w ∈ lw_tbl := by decide +kernel
theorem inlX3 : ∀ w ∈ wsX30, w ∈ wsL_law := fun _ h => List.mem_append_left _ (List.mem_append_right _ h)
theorem inX3 : ∀ w ∈ wsX30, w ∈ lw_tbl := fun w h => wsL_law_in w (inlX3 w h)
theorem inlX4 : ∀ w ∈ wsX40, w ∈ wsL_law := fun _ h => List.mem_append_left _ (List.mem_append_left _ (List.mem_append_left _ (List.mem_append_left _ (List.mem_append_right _ h))))
theorem inX4 : ∀ w ∈ wsX40, w ∈ lw_tbl := fun w h => wsL_law_in w (inlX4 w h)
theorem inlX5 : ∀ w ∈ wsX50, w ∈ wsL_law := fun _ h => List.mem_append_left _ (List.mem_append_left _ (List.mem_append_right _ h))
theorem inX5 : ∀ w ∈ wsX50, w ∈ lw_tbl := fun w h => wsL_law_in w (inlX5 w h)
theorem inlX6 : ∀ w ∈ wsX60, w ∈ wsL_law := fun _ h => List.mem_append_left _ (List.mem_append_left _ (List.mem_append_left _ (List.mem_append_left _ (List.mem_append_left _ (List.mem_append_left _ (List.mem_append_right _ h))))))
theorem inX6 : ∀ w ∈ wsX60, w ∈ lw_tbl := fun w h => wsL_law_in w (inlX6 w h)
theorem inlX7 : ∀ w ∈ wsX70, w ∈ wsL_law := fun _ h => List.mem_append_left _ (List.mem_append_left _ (List.mem_append_left _ (List.mem_append_left _ (List.mem_append_left _ (List.mem_append_right _ h)))))
theorem inX7 : ∀ w ∈ wsX70, w ∈ lw_tbl := fun w h => wsL_law_in w (inlX7 w h)
theorem inJx145de : ∀ w ∈ wsJx145de0, w ∈ lw_tbl := by decide +kernel
theorem inJx9f9b0 : ∀ w ∈ wsJx9f9b00, w ∈ lw_tbl := by decide +kernel
theorem inJxb160c : ∀ w ∈ wsJxb160c0, w ∈ lw_tbl := by decide +kernel
theorem inJ6 : ∀ w ∈ wsJ60, w ∈ lw_tbl := by decide +kernel
theorem inJ9 : ∀ w ∈ wsJ90, w ∈ lw_tbl := by decide +kernel
theorem inJ0 : ∀ w ∈ wsJ00, w ∈ lw_tbl := by decide +kernel
theorem inJ1 : ∀ w ∈ wsJ10, w ∈ lw_tbl := by decide +kernel
theorem inJ2 : ∀ w ∈ wsJ20, w ∈ lw_tbl := by decide +kernel
theorem inJ10 : ∀ w ∈ wsJ100, w ∈ lw_tbl := by decide +kernel
theorem inJxfd54e : ∀ w ∈ wsJxfd54e0, w ∈ lw_tbl := by decide +kernel
theorem inJx3cf43 : ∀ w ∈ wsJx3cf430, w ∈ lw_tbl := by decide +kernel
theorem inJ7 : ∀ w ∈ wsJ70, w ∈ lw_tbl := by decide +kernel
theorem inJ3 : ∀ w ∈ wsJ30, w ∈ lw_tbl := by decide +kernel
