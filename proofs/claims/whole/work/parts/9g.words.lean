theorem mem_r {big : List Cond} (ws : List Cond) (ps : List Nat) (hp : ws = ps.filterMap (fun i => big[i]?)) : ∀ w ∈ ws, w ∈ big := by
  intro w hw
  rw [hp] at hw
  obtain ⟨i, -, hi⟩ := List.mem_filterMap.mp hw
  exact List.mem_of_getElem? hi
theorem mem_a {big a b : List Cond} (ha : ∀ w ∈ a, w ∈ big) (hb : ∀ w ∈ b, w ∈ big) : ∀ w ∈ a ++ b, w ∈ big := fun w h => (List.mem_append.mp h).elim (ha w) (hb w)
set_option maxRecDepth 20000 in
theorem wi_1 : ∀ w ∈ wsL_law_r1, w ∈ lw_tbl := mem_r _ [63, 64, 51, 734, 735, 60, 1099, 65, 66, 67, 68, 69, 70, 71, 72, 52, 348, 124, 125, 53, 349, 169, 170, 54] (by decide +kernel)
set_option maxRecDepth 20000 in
theorem wi_2 : ∀ w ∈ wsL_law_r2, w ∈ lw_tbl := mem_r _ [350, 191, 192, 55, 351, 250, 251, 57, 352, 277, 278, 58, 353, 354, 334, 335, 59, 355, 356, 74, 75, 76, 122, 77] (by decide +kernel)
set_option maxRecDepth 20000 in
theorem wi_3 : ∀ w ∈ wsL_law_r3, w ∈ lw_tbl := mem_r _ [81, 84, 87, 123, 89, 92, 96, 99, 101, 127, 128, 129, 130, 131, 132, 133, 134, 135, 136, 137, 139, 141, 143, 172] (by decide +kernel)
set_option maxRecDepth 20000 in
theorem wi_4 : ∀ w ∈ wsL_law_r4, w ∈ lw_tbl := mem_r _ [173, 174, 175, 176, 178, 180, 193, 194, 195, 196, 197, 239, 242, 199, 56, 201, 202, 203, 204, 206, 209, 211, 213, 217] (by decide +kernel)
set_option maxRecDepth 20000 in
theorem wi_5 : ∀ w ∈ wsL_law_r5, w ∈ lw_tbl := mem_r _ [221, 252, 253, 254, 255, 257, 258, 261, 262, 263, 256, 279, 280, 281, 282, 286, 288, 290, 292, 293, 295, 296, 297, 299] (by decide +kernel)
set_option maxRecDepth 20000 in
theorem wi_6 : ∀ w ∈ wsL_law_r6, w ∈ lw_tbl := mem_r _ [301, 303, 283, 284, 285, 337, 338, 339, 340, 341, 736, 737, 738, 739, 741, 742, 743, 744, 746, 748, 749, 752, 753, 754] (by decide +kernel)
set_option maxRecDepth 20000 in
theorem wi_7 : ∀ w ∈ wsL_law_r7, w ∈ lw_tbl := mem_r _ [755, 756, 757, 758, 759, 763, 764, 765, 766, 767, 768, 769, 770, 771, 772, 776, 777, 778, 779, 781, 782, 783, 784, 785] (by decide +kernel)
set_option maxRecDepth 20000 in
theorem wi_8 : ∀ w ∈ wsL_law_r8, w ∈ lw_tbl := mem_r _ [787, 788, 789, 791, 792, 376, 377, 378, 379, 140, 97, 380, 381, 382, 383, 384, 385, 386, 387, 388, 390, 0, 391, 392] (by decide +kernel)
set_option maxRecDepth 20000 in
theorem wi_9 : ∀ w ∈ wsL_law_r9, w ∈ lw_tbl := mem_r _ [394, 1, 395, 396, 397, 398, 399, 145, 400, 401, 402, 403, 404, 406, 2, 407, 408, 410, 3, 411, 412, 413, 414, 415] (by decide +kernel)
set_option maxRecDepth 20000 in
theorem wi_10 : ∀ w ∈ wsL_law_r10, w ∈ lw_tbl := mem_r _ [900, 901, 902, 903, 904, 906, 28, 907, 740, 908, 910, 29, 911, 747, 750, 912, 914, 30, 915, 751, 745, 916, 918, 31] (by decide +kernel)
set_option maxRecDepth 20000 in
theorem wi_11 : ∀ w ∈ wsL_law_r11, w ∈ lw_tbl := mem_r _ [919, 920, 922, 32, 923, 924, 926, 33, 927, 928, 930, 34, 931, 416, 417, 418, 419, 138, 420, 421, 422, 423, 424, 425] (by decide +kernel)
set_option maxRecDepth 20000 in
theorem wi_12 : ∀ w ∈ wsL_law_r12, w ∈ lw_tbl := mem_r _ [426, 427, 428, 430, 4, 431, 432, 433, 435, 5, 436, 437, 438, 61, 439, 440, 442, 6, 443, 444, 446, 7, 447, 448] (by decide +kernel)
set_option maxRecDepth 20000 in
theorem wi_13 : ∀ w ∈ wsL_law_r13, w ∈ lw_tbl := mem_r _ [450, 8, 451, 452, 454, 9, 455, 456, 457, 458, 459, 932, 933, 934, 935, 936, 937, 938, 939, 940, 942, 35, 943, 460] (by decide +kernel)
set_option maxRecDepth 20000 in
theorem wi_14 : ∀ w ∈ wsL_law_r14, w ∈ lw_tbl := mem_r _ [461, 462, 463, 144, 464, 465, 466, 467, 944, 945, 946, 947, 468, 469, 470, 471, 177, 472, 473, 474, 475, 476, 965, 966] (by decide +kernel)
set_option maxRecDepth 20000 in
theorem wi_15 : ∀ w ∈ wsL_law_r15, w ∈ lw_tbl := mem_r _ [967, 968, 969, 760, 970, 477, 478, 479, 480, 244, 241, 179, 481, 482, 483, 484, 214, 218, 485, 487, 10, 488, 489, 491] (by decide +kernel)
set_option maxRecDepth 20000 in
theorem wi_16 : ∀ w ∈ wsL_law_r16, w ∈ lw_tbl := mem_r _ [11, 492, 493, 495, 12, 496, 497, 499, 13, 500, 501, 503, 14, 504, 505, 506, 507, 508, 509, 510, 511, 512, 513, 514] (by decide +kernel)
set_option maxRecDepth 20000 in
theorem wi_17 : ∀ w ∈ wsL_law_r17, w ∈ lw_tbl := mem_r _ [515, 516, 518, 15, 519, 520, 521, 522, 523, 222, 971, 972, 973, 974, 762, 773, 774, 775, 761, 975, 977, 38, 978, 987] (by decide +kernel)
set_option maxRecDepth 20000 in
theorem wi_18 : ∀ w ∈ wsL_law_r18, w ∈ lw_tbl := mem_r _ [988, 979, 981, 39, 982, 983, 985, 40, 986, 989, 991, 41, 992, 993, 995, 42, 996, 997, 998, 524, 525, 526, 527, 181] (by decide +kernel)
set_option maxRecDepth 20000 in
theorem wi_19 : ∀ w ∈ wsL_law_r19, w ∈ lw_tbl := mem_r _ [999, 1000, 1001, 1002, 528, 529, 530, 531, 223, 532, 533, 534, 535, 1003, 1004, 1005, 1006, 1007, 1009, 43, 1010, 536, 537, 538] (by decide +kernel)
set_option maxRecDepth 20000 in
theorem wi_20 : ∀ w ∈ wsL_law_r20, w ∈ lw_tbl := mem_r _ [539, 342, 540, 541, 542, 543, 544, 546, 16, 547, 548, 549, 550, 551, 552, 553, 554, 555, 556, 557, 558, 559, 1011, 1012] (by decide +kernel)
set_option maxRecDepth 20000 in
theorem wi_21 : ∀ w ∈ wsL_law_r21, w ∈ lw_tbl := mem_r _ [1013, 1014, 560, 561, 562, 563, 948, 949, 950, 951, 564, 565, 566, 567, 80, 83, 86, 88, 95, 91, 568, 569, 570, 571] (by decide +kernel)
set_option maxRecDepth 20000 in
theorem wi_22 : ∀ w ∈ wsL_law_r22, w ∈ lw_tbl := mem_r _ [952, 953, 954, 955, 960, 956, 958, 36, 959, 961, 963, 37, 964, 572, 573, 574, 575, 576, 577, 578, 579, 580, 581, 582] (by decide +kernel)
set_option maxRecDepth 20000 in
theorem wi_23 : ∀ w ∈ wsL_law_r23, w ∈ lw_tbl := mem_r _ [583, 584, 585, 586, 587, 588, 589, 590, 591, 592, 210, 593, 595, 17, 596, 207, 205, 82, 85, 597, 599, 18, 600, 79] (by decide +kernel)
set_option maxRecDepth 20000 in
theorem wi_24 : ∀ w ∈ wsL_law_r24, w ∈ lw_tbl := mem_r _ [94, 1015, 1016, 1017, 1018, 1019, 1021, 44, 1022, 1023, 1025, 45, 1026, 601, 602, 603, 604, 260, 605, 606, 607, 608, 1027, 1028] (by decide +kernel)
set_option maxRecDepth 20000 in
theorem wi_25 : ∀ w ∈ wsL_law_r25, w ∈ lw_tbl := mem_r _ [1029, 1030, 609, 610, 611, 612, 613, 614, 615, 616, 98, 90, 78, 93, 617, 619, 19, 620, 243, 240, 621, 622, 623, 624] (by decide +kernel)
set_option maxRecDepth 20000 in
theorem wi_26 : ∀ w ∈ wsL_law_r26, w ∈ lw_tbl := mem_r _ [626, 20, 627, 215, 259, 632, 219, 628, 629, 630, 631, 633, 635, 21, 636, 637, 638, 62, 639, 640, 642, 22, 643, 644] (by decide +kernel)
set_option maxRecDepth 20000 in
theorem wi_27 : ∀ w ∈ wsL_law_r27, w ∈ lw_tbl := mem_r _ [646, 23, 647, 648, 650, 24, 651, 652, 654, 25, 655, 656, 657, 658, 659, 660, 662, 26, 663, 1031, 1032, 1033, 1034, 780] (by decide +kernel)
set_option maxRecDepth 20000 in
theorem wi_28 : ∀ w ∈ wsL_law_r28, w ∈ lw_tbl := mem_r _ [790, 1035, 1037, 46, 1038, 1039, 1041, 47, 1042, 1043, 1045, 48, 1046, 786, 664, 665, 666, 667, 287, 289, 291, 668, 669, 1047] (by decide +kernel)
set_option maxRecDepth 20000 in
theorem wi_29 : ∀ w ∈ wsL_law_r29, w ∈ lw_tbl := mem_r _ [1048, 1049, 1050, 670, 671, 672, 673, 300, 294, 1051, 1052, 1053, 1054, 1055, 674, 675, 676, 677, 302, 1056, 1057, 1058, 1059, 678] (by decide +kernel)
set_option maxRecDepth 20000 in
theorem wi_30 : ∀ w ∈ wsL_law_r30, w ∈ lw_tbl := mem_r _ [679, 680, 681, 682, 1060, 1061, 1062, 1063, 683, 684, 685, 686, 304, 1064, 1065, 1066, 1067, 687, 688, 689, 690, 691, 692, 693] (by decide +kernel)
set_option maxRecDepth 20000 in
theorem wi_31 : ∀ w ∈ wsL_law_r31, w ∈ lw_tbl := mem_r _ [694, 695, 696, 697, 1068, 1069, 1070, 1071, 1072, 1073, 1074, 698, 699, 700, 701, 298, 702, 703, 704, 705, 706, 708, 27, 709] (by decide +kernel)
set_option maxRecDepth 20000 in
theorem wi_32 : ∀ w ∈ wsL_law_r32, w ∈ lw_tbl := mem_r _ [710, 711, 712, 713, 1075, 1076, 1077, 1078, 1079, 1081, 49, 1082, 714, 715, 716, 717, 216, 220, 208, 212, 718, 1083, 1084, 1085] (by decide +kernel)
set_option maxRecDepth 20000 in
theorem wi_33 : ∀ w ∈ wsL_law_r33, w ∈ lw_tbl := mem_r _ [1086, 1087, 1088, 719, 720, 721, 722, 142, 100, 102, 723, 724, 725, 726, 1089, 1090, 1091, 1092, 727, 728, 729, 730, 731, 732] (by decide +kernel)
set_option maxRecDepth 20000 in
theorem wi_34 : ∀ w ∈ wsL_law_r34, w ∈ lw_tbl := mem_r _ [733, 1093, 1094, 1095, 1096, 1097, 1098] (by decide +kernel)
set_option maxRecDepth 20000 in
theorem inX8 : ∀ w ∈ wsX80, w ∈ lw_tbl := mem_r _ [357, 359, 361, 363, 365, 367, 369, 371, 373] (by decide +kernel)
set_option maxRecDepth 20000 in
theorem inX9 : ∀ w ∈ wsX90, w ∈ lw_tbl := mem_r _ [793, 795, 797, 799, 801, 803, 805, 807, 809, 811, 813, 815, 817, 819, 821, 823, 825, 827, 829, 831, 833, 835, 837, 839, 841, 843, 845, 847, 849, 851, 853, 855, 857, 859, 861, 863, 865, 867, 869, 871, 873, 875, 877, 879, 881, 883, 885, 887, 889, 891, 893, 895, 897] (by decide +kernel)
set_option maxRecDepth 20000 in
theorem inX7 : ∀ w ∈ wsX70, w ∈ lw_tbl := mem_r _ [103, 105, 107, 109, 111, 113, 115, 117, 119] (by decide +kernel)
set_option maxRecDepth 20000 in
theorem inX5 : ∀ w ∈ wsX50, w ∈ lw_tbl := mem_r _ [146, 148, 150, 152, 154, 156, 158, 160, 162, 164, 166] (by decide +kernel)
set_option maxRecDepth 20000 in
theorem inX6 : ∀ w ∈ wsX60, w ∈ lw_tbl := mem_r _ [182, 184, 186, 188] (by decide +kernel)
set_option maxRecDepth 20000 in
theorem inX3 : ∀ w ∈ wsX30, w ∈ lw_tbl := mem_r _ [245, 247] (by decide +kernel)
set_option maxRecDepth 20000 in
theorem inX4 : ∀ w ∈ wsX40, w ∈ lw_tbl := mem_r _ [264, 266, 268, 270, 272, 274] (by decide +kernel)
set_option maxRecDepth 20000 in
theorem inX1 : ∀ w ∈ wsX10, w ∈ lw_tbl := mem_r _ [305, 307, 309, 311, 313, 315, 317, 319, 321, 323, 325, 327, 329, 331] (by decide +kernel)
set_option maxRecDepth 20000 in
theorem inX2 : ∀ w ∈ wsX20, w ∈ lw_tbl := mem_r _ [343, 345] (by decide +kernel)
set_option maxRecDepth 20000 in
theorem inX0 : ∀ w ∈ wsX00, w ∈ lw_tbl := mem_r _ [224, 226, 228, 230, 232, 234, 236] (by decide +kernel)
theorem wsL_law_in : ∀ w ∈ wsL_law, w ∈ lw_tbl := mem_a (mem_a (mem_a (mem_a (mem_a (mem_a (mem_a (mem_a (mem_a (mem_a (mem_a (mem_a wi_1 (mem_a wi_2 (mem_a wi_3 (mem_a wi_4 (mem_a wi_5 (mem_a wi_6 (mem_a wi_7 (mem_a wi_8 (mem_a wi_9 (mem_a wi_10 (mem_a wi_11 (mem_a wi_12 (mem_a wi_13 (mem_a wi_14 (mem_a wi_15 (mem_a wi_16 (mem_a wi_17 (mem_a wi_18 (mem_a wi_19 (mem_a wi_20 (mem_a wi_21 (mem_a wi_22 (mem_a wi_23 (mem_a wi_24 (mem_a wi_25 (mem_a wi_26 (mem_a wi_27 (mem_a wi_28 (mem_a wi_29 (mem_a wi_30 (mem_a wi_31 (mem_a wi_32 (mem_a wi_33 (wi_34)))))))))))))))))))))))))))))))))) inX8) inX9) inX7) inX5) inX6) inX3) inX4) inX1) inX2) inX0) (fun _ h => absurd h List.not_mem_nil)
theorem nw_7 : Cond.methodLinkNest RX8 11 yX7_init RX8 ∈ lw_tbl := List.mem_of_getElem? (i := 73) (by decide +kernel)
theorem nw_5 : Cond.methodLinkNest RX8 18 yX5_init RX8 ∈ lw_tbl := List.mem_of_getElem? (i := 126) (by decide +kernel)
theorem nw_6 : Cond.methodLinkNest RX8 25 yX6_init RX8 ∈ lw_tbl := List.mem_of_getElem? (i := 171) (by decide +kernel)
theorem nw_2 : Cond.methodLinkNest RX8 60 yX2_init RX8 ∈ lw_tbl := List.mem_of_getElem? (i := 336) (by decide +kernel)
theorem nw_0 : Cond.methodLinkNest RX3 21 yX0_init RX8 ∈ lw_tbl := List.mem_of_getElem? (i := 200) (by decide +kernel)
theorem nw_ao : Cond.arrayOver (.object RX0) ∈ lw_tbl := List.mem_of_getElem? (i := 198) (by decide +kernel)
