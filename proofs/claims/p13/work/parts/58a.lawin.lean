set_option maxRecDepth 20000 in
theorem il_wsL_law_r1 : GoodIn lw_tbl wsL_law_r1 := goodIn_r wsL_law_r1 [94, 95, 79, 740, 741, 86, 1059, 650, 651, 78, 652, 96, 97, 98, 99, 100, 101, 102, 103, 80, 251, 153, 154, 82] (by decide +kernel) (by decide +kernel)
set_option maxRecDepth 20000 in
theorem il_wsL_law_r2 : GoodIn lw_tbl wsL_law_r2 := goodIn_r wsL_law_r2 [252, 188, 189, 84, 253, 210, 211, 85, 254, 255, 256, 104, 105, 106, 107, 108, 109, 81, 110, 111, 112, 113, 114, 115] (by decide +kernel) (by decide +kernel)
set_option maxRecDepth 20000 in
theorem il_wsL_law_r3 : GoodIn lw_tbl wsL_law_r3 := goodIn_r wsL_law_r3 [152, 116, 117, 119, 122, 127, 130, 155, 156, 157, 158, 175, 159, 160, 83, 176, 178, 162, 163, 164, 174, 165, 166, 190] (by decide +kernel) (by decide +kernel)
set_option maxRecDepth 20000 in
theorem il_wsL_law_r4 : GoodIn lw_tbl wsL_law_r4 := goodIn_r wsL_law_r4 [191, 192, 193, 194, 195, 196, 199, 212, 213, 214, 215, 218, 219, 220, 216, 221, 222, 223, 224, 225, 226, 228, 742, 743] (by decide +kernel) (by decide +kernel)
set_option maxRecDepth 20000 in
theorem il_wsL_law_r5 : GoodIn lw_tbl wsL_law_r5 := goodIn_r wsL_law_r5 [744, 745, 756, 757, 761, 763, 772, 750, 751, 746, 748, 35, 749, 752, 753, 754, 755, 270, 271, 272, 273, 197, 227, 274] (by decide +kernel) (by decide +kernel)
set_option maxRecDepth 20000 in
theorem il_wsL_law_r6 : GoodIn lw_tbl wsL_law_r6 := goodIn_r wsL_law_r6 [275, 276, 277, 167, 278, 279, 280, 281, 282, 283, 284, 87, 285, 286, 287, 288, 289, 290, 292, 293, 294, 296, 295, 88] (by decide +kernel) (by decide +kernel)
set_option maxRecDepth 20000 in
theorem il_wsL_law_r7 : GoodIn lw_tbl wsL_law_r7 := goodIn_r wsL_law_r7 [297, 298, 299, 300, 301, 302, 303, 304, 305, 307, 0, 308, 309, 310, 311, 312, 313, 314, 315, 316, 317, 319, 1, 320] (by decide +kernel) (by decide +kernel)
set_option maxRecDepth 20000 in
theorem il_wsL_law_r8 : GoodIn lw_tbl wsL_law_r8 := goodIn_r wsL_law_r8 [321, 322, 323, 324, 326, 2, 327, 133, 328, 329, 330, 331, 332, 334, 3, 335, 336, 337, 338, 339, 340, 341, 342, 343] (by decide +kernel) (by decide +kernel)
set_option maxRecDepth 20000 in
theorem il_wsL_law_r9 : GoodIn lw_tbl wsL_law_r9 := goodIn_r wsL_law_r9 [344, 345, 346, 347, 349, 4, 350, 351, 352, 353, 354, 355, 356, 358, 5, 359, 360, 362, 6, 363, 364, 366, 7, 367] (by decide +kernel) (by decide +kernel)
set_option maxRecDepth 20000 in
theorem il_wsL_law_r10 : GoodIn lw_tbl wsL_law_r10 := goodIn_r wsL_law_r10 [126, 368, 370, 8, 371, 372, 374, 9, 375, 376, 378, 10, 379, 380, 381, 383, 11, 384, 385, 387, 12, 388, 389, 390] (by decide +kernel) (by decide +kernel)
set_option maxRecDepth 20000 in
theorem il_wsL_law_r11 : GoodIn lw_tbl wsL_law_r11 := goodIn_r wsL_law_r11 [391, 392, 393, 395, 13, 396, 397, 399, 14, 400, 401, 402, 403, 404, 405, 406, 407, 408, 409, 410, 412, 15, 413, 414] (by decide +kernel) (by decide +kernel)
set_option maxRecDepth 20000 in
theorem il_wsL_law_r12 : GoodIn lw_tbl wsL_law_r12 := goodIn_r wsL_law_r12 [415, 416, 417, 418, 420, 16, 421, 422, 423, 424, 425, 426, 428, 17, 429, 430, 432, 18, 433, 198, 434, 435, 436, 437] (by decide +kernel) (by decide +kernel)
set_option maxRecDepth 20000 in
theorem il_wsL_law_r13 : GoodIn lw_tbl wsL_law_r13 := goodIn_r wsL_law_r13 [438, 439, 440, 441, 442, 443, 444, 445, 446, 447, 448, 449, 450, 451, 452, 453, 454, 455, 456, 458, 19, 459, 460, 461] (by decide +kernel) (by decide +kernel)
set_option maxRecDepth 20000 in
theorem il_wsL_law_r14 : GoodIn lw_tbl wsL_law_r14 := goodIn_r wsL_law_r14 [462, 463, 132, 128, 123, 464, 466, 20, 467, 468, 469, 471, 21, 472, 473, 475, 22, 476, 477, 479, 23, 480, 481, 482] (by decide +kernel) (by decide +kernel)
set_option maxRecDepth 20000 in
theorem il_wsL_law_r15 : GoodIn lw_tbl wsL_law_r15 := goodIn_r wsL_law_r15 [484, 24, 485, 486, 487, 488, 489, 490, 491, 493, 25, 494, 495, 496, 497, 498, 499, 830, 831, 832, 833, 762, 768, 774] (by decide +kernel) (by decide +kernel)
set_option maxRecDepth 20000 in
theorem il_wsL_law_r16 : GoodIn lw_tbl wsL_law_r16 := goodIn_r wsL_law_r16 [764, 769, 767, 834, 836, 36, 837, 765, 771, 760, 773, 838, 840, 37, 841, 842, 844, 38, 845, 759, 766, 770, 846, 848] (by decide +kernel) (by decide +kernel)
set_option maxRecDepth 20000 in
theorem il_wsL_law_r17 : GoodIn lw_tbl wsL_law_r17 := goodIn_r wsL_law_r17 [39, 849, 850, 852, 40, 853, 854, 856, 41, 857, 858, 859, 860, 861, 863, 42, 864, 865, 867, 43, 868, 869, 871, 44] (by decide +kernel) (by decide +kernel)
set_option maxRecDepth 20000 in
theorem il_wsL_law_r18 : GoodIn lw_tbl wsL_law_r18 := goodIn_r wsL_law_r18 [872, 873, 875, 45, 876, 877, 879, 46, 880, 881, 883, 47, 884, 885, 887, 48, 888, 889, 891, 49, 892, 893, 895, 50] (by decide +kernel) (by decide +kernel)
set_option maxRecDepth 20000 in
theorem il_wsL_law_r19 : GoodIn lw_tbl wsL_law_r19 := goodIn_r wsL_law_r19 [896, 897, 899, 51, 900, 901, 903, 52, 904, 905, 907, 53, 908, 909, 911, 54, 912, 913, 915, 55, 916, 917, 919, 56] (by decide +kernel) (by decide +kernel)
set_option maxRecDepth 20000 in
theorem il_wsL_law_r20 : GoodIn lw_tbl wsL_law_r20 := goodIn_r wsL_law_r20 [920, 921, 923, 57, 924, 925, 927, 58, 928, 929, 931, 59, 932, 933, 935, 60, 936, 937, 939, 61, 940, 941, 943, 62] (by decide +kernel) (by decide +kernel)
set_option maxRecDepth 20000 in
theorem il_wsL_law_r21 : GoodIn lw_tbl wsL_law_r21 := goodIn_r wsL_law_r21 [944, 500, 501, 502, 503, 504, 505, 506, 507, 508, 509, 510, 511, 512, 1011, 1012, 1013, 1014, 1015, 1017, 76, 1018, 513, 514] (by decide +kernel) (by decide +kernel)
set_option maxRecDepth 20000 in
theorem il_wsL_law_r22 : GoodIn lw_tbl wsL_law_r22 := goodIn_r wsL_law_r22 [515, 516, 517, 518, 519, 520, 1019, 1020, 1021, 1022, 521, 522, 523, 524, 525, 526, 527, 528, 131, 529, 530, 531, 532, 534] (by decide +kernel) (by decide +kernel)
set_option maxRecDepth 20000 in
theorem il_wsL_law_r23 : GoodIn lw_tbl wsL_law_r23 := goodIn_r wsL_law_r23 [536, 26, 537, 179, 538, 539, 540, 542, 27, 543, 124, 120, 544, 545, 546, 547, 548, 550, 28, 551, 552, 553, 554, 555] (by decide +kernel) (by decide +kernel)
set_option maxRecDepth 20000 in
theorem il_wsL_law_r24 : GoodIn lw_tbl wsL_law_r24 := goodIn_r wsL_law_r24 [556, 558, 29, 559, 560, 561, 562, 563, 564, 565, 566, 567, 569, 30, 570, 571, 572, 573, 574, 575, 576, 577, 578, 579] (by decide +kernel) (by decide +kernel)
set_option maxRecDepth 20000 in
theorem il_wsL_law_r25 : GoodIn lw_tbl wsL_law_r25 := goodIn_r wsL_law_r25 [580, 581, 582, 583, 584, 585, 586, 587, 588, 945, 946, 947, 948, 758, 949, 950, 951, 952, 953, 954, 955, 957, 63, 958] (by decide +kernel) (by decide +kernel)
set_option maxRecDepth 20000 in
theorem il_wsL_law_r26 : GoodIn lw_tbl wsL_law_r26 := goodIn_r wsL_law_r26 [959, 961, 64, 962, 963, 965, 65, 966, 967, 969, 66, 970, 971, 973, 67, 974, 975, 977, 68, 978, 979, 981, 69, 982] (by decide +kernel) (by decide +kernel)
set_option maxRecDepth 20000 in
theorem il_wsL_law_r27 : GoodIn lw_tbl wsL_law_r27 := goodIn_r wsL_law_r27 [983, 985, 70, 986, 987, 989, 71, 990, 991, 993, 72, 994, 995, 997, 73, 998, 999, 1001, 74, 1002, 589, 590, 591, 592] (by decide +kernel) (by decide +kernel)
set_option maxRecDepth 20000 in
theorem il_wsL_law_r28 : GoodIn lw_tbl wsL_law_r28 := goodIn_r wsL_law_r28 [593, 594, 595, 596, 597, 599, 31, 600, 601, 602, 603, 604, 605, 606, 608, 32, 609, 610, 611, 613, 33, 614, 615, 1003] (by decide +kernel) (by decide +kernel)
set_option maxRecDepth 20000 in
theorem il_wsL_law_r29 : GoodIn lw_tbl wsL_law_r29 := goodIn_p wsL_law_r29 [1006, 1010, 619, 1026, 660] (by decide +kernel) (by decide +kernel)
set_option maxRecDepth 20000 in
theorem il_wsL_law_r30 : GoodIn lw_tbl wsL_law_r30 := goodIn_r wsL_law_r30 [661, 662, 93, 731, 1027, 1028, 1029, 1030, 620, 621, 622, 623, 624, 625, 626, 627, 628, 629, 630, 631, 632, 633, 1031, 1032] (by decide +kernel) (by decide +kernel)
set_option maxRecDepth 20000 in
theorem il_wsL_law_r31 : GoodIn lw_tbl wsL_law_r31 := goodIn_r wsL_law_r31 [1033, 1034, 1035, 1037, 77, 1038, 634, 635, 636, 637, 134, 1039, 1040, 1041, 1042, 638, 639, 640, 641, 1043, 1044, 1045, 1046, 642] (by decide +kernel) (by decide +kernel)
set_option maxRecDepth 20000 in
theorem il_wsL_law_r32 : GoodIn lw_tbl wsL_law_r32 := goodIn_p wsL_law_r32 [645, 1050, 738, 1054, 829] (by decide +kernel) (by decide +kernel)
set_option maxRecDepth 20000 in
theorem il_wsL_law_r33 : GoodIn lw_tbl wsL_law_r33 := goodIn_r wsL_law_r33 [647, 648, 649, 118, 121, 129, 229, 200, 180, 1055, 1056, 1057, 1058] (by decide +kernel) (by decide +kernel)
set_option maxRecDepth 20000 in
theorem il_wsX50 : GoodIn lw_tbl wsX50 := goodIn_r wsX50 [257, 259, 261, 263, 265, 267] (by decide +kernel) (by decide +kernel)
set_option maxRecDepth 20000 in
theorem il_wsX60 : GoodIn lw_tbl wsX60 := goodIn_r wsX60 [775, 777, 779, 781, 783, 785, 787, 789, 791, 793, 795, 797, 799, 801, 803, 805, 807, 809, 811, 813, 815, 817, 819, 821, 823] (by decide +kernel) (by decide +kernel)
set_option maxRecDepth 20000 in
theorem il_wsX30 : GoodIn lw_tbl wsX30 := goodIn_r wsX30 [135, 137, 139, 141, 143, 145, 147, 149] (by decide +kernel) (by decide +kernel)
set_option maxRecDepth 20000 in
theorem il_wsX40 : GoodIn lw_tbl wsX40 := goodIn_r wsX40 [181, 183, 185] (by decide +kernel) (by decide +kernel)
set_option maxRecDepth 20000 in
theorem il_wsX20 : GoodIn lw_tbl wsX20 := goodIn_r wsX20 [201, 203, 205, 207] (by decide +kernel) (by decide +kernel)
set_option maxRecDepth 20000 in
theorem il_wsX10 : GoodIn lw_tbl wsX10 := goodIn_r wsX10 [230, 232, 234, 236, 238, 240, 242, 244, 246, 248] (by decide +kernel) (by decide +kernel)
set_option maxRecDepth 20000 in
theorem il_wsX00 : GoodIn lw_tbl wsX00 := goodIn_r wsX00 [169, 171] (by decide +kernel) (by decide +kernel)
set_option maxRecDepth 20000 in
theorem il_wsJx000600 : GoodIn lw_tbl wsJx000600 := goodIn_r wsJx000600 [674, 676, 678, 680, 682, 727] (by decide +kernel) (by decide +kernel)
