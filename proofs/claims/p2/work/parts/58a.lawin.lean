set_option maxRecDepth 20000 in
theorem il_wsL_law_r1 : GoodIn lw_tbl wsL_law_r1 := goodIn_r wsL_law_r1 [94, 95, 79, 740, 741, 86, 1055, 650, 651, 78, 652, 96, 97, 98, 99, 100, 101, 102, 103, 80, 251, 153, 154, 82] (by decide +kernel) (by decide +kernel)
set_option maxRecDepth 20000 in
theorem il_wsL_law_r2 : GoodIn lw_tbl wsL_law_r2 := goodIn_r wsL_law_r2 [252, 188, 189, 84, 253, 210, 211, 85, 254, 255, 256, 104, 105, 106, 107, 108, 109, 81, 110, 111, 112, 113, 114, 115] (by decide +kernel) (by decide +kernel)
set_option maxRecDepth 20000 in
theorem il_wsL_law_r3 : GoodIn lw_tbl wsL_law_r3 := goodIn_r wsL_law_r3 [152, 116, 117, 119, 122, 127, 130, 155, 156, 157, 158, 175, 159, 160, 83, 176, 178, 162, 163, 164, 174, 165, 166, 190] (by decide +kernel) (by decide +kernel)
set_option maxRecDepth 20000 in
theorem il_wsL_law_r4 : GoodIn lw_tbl wsL_law_r4 := goodIn_r wsL_law_r4 [191, 192, 193, 194, 195, 196, 199, 212, 213, 214, 215, 218, 219, 220, 216, 221, 222, 223, 224, 225, 226, 228, 742, 743] (by decide +kernel) (by decide +kernel)
set_option maxRecDepth 20000 in
theorem il_wsL_law_r5 : GoodIn lw_tbl wsL_law_r5 := goodIn_r wsL_law_r5 [744, 745, 756, 757, 761, 763, 772, 750, 751, 746, 748, 35, 749, 752, 753, 754, 755, 270, 271, 272, 273, 197, 227, 274] (by decide +kernel) (by decide +kernel)
set_option maxRecDepth 20000 in
theorem il_wsL_law_r6 : GoodIn lw_tbl wsL_law_r6 := goodIn_r wsL_law_r6 [275, 276, 277, 167, 278, 279, 280, 281, 282, 283, 284, 87, 285, 286, 287, 288, 289, 290, 292, 293, 294, 296, 295, 88] (by decide +kernel) (by decide +kernel)
set_option maxRecDepth 20000 in
theorem il_wsL_law_r7 : GoodIn lw_tbl wsL_law_r7 := goodIn_r wsL_law_r7 [297, 298, 299, 300, 301, 302, 303, 304, 305, 307, 0, 308, 309, 310, 311, 312, 313, 314, 315, 316, 317, 319, 1, 320] (by decide +kernel) (by decide +kernel)
set_option maxRecDepth 20000 in
theorem il_wsL_law_r8 : GoodIn lw_tbl wsL_law_r8 := goodIn_r wsL_law_r8 [321, 322, 323, 324, 326, 2, 327, 133, 328, 329, 330, 331, 332, 334, 3, 335, 336, 337, 338, 339, 340, 341, 342, 343] (by decide +kernel) (by decide +kernel)
set_option maxRecDepth 20000 in
theorem il_wsL_law_r9 : GoodIn lw_tbl wsL_law_r9 := goodIn_r wsL_law_r9 [344, 345, 346, 347, 349, 4, 350, 351, 352, 353, 354, 355, 356, 358, 5, 359, 360, 362, 6, 363, 364, 366, 7, 367] (by decide +kernel) (by decide +kernel)
set_option maxRecDepth 20000 in
theorem il_wsL_law_r10 : GoodIn lw_tbl wsL_law_r10 := goodIn_r wsL_law_r10 [126, 368, 370, 8, 371, 372, 374, 9, 375, 376, 378, 10, 379, 380, 381, 383, 11, 384, 385, 387, 12, 388, 389, 390] (by decide +kernel) (by decide +kernel)
set_option maxRecDepth 20000 in
theorem il_wsL_law_r11 : GoodIn lw_tbl wsL_law_r11 := goodIn_r wsL_law_r11 [391, 392, 393, 395, 13, 396, 397, 399, 14, 400, 401, 402, 403, 404, 405, 406, 407, 408, 409, 410, 412, 15, 413, 414] (by decide +kernel) (by decide +kernel)
set_option maxRecDepth 20000 in
theorem il_wsL_law_r12 : GoodIn lw_tbl wsL_law_r12 := goodIn_r wsL_law_r12 [415, 416, 417, 418, 420, 16, 421, 422, 423, 424, 425, 426, 428, 17, 429, 430, 432, 18, 433, 198, 434, 435, 436, 437] (by decide +kernel) (by decide +kernel)
set_option maxRecDepth 20000 in
theorem il_wsL_law_r13 : GoodIn lw_tbl wsL_law_r13 := goodIn_r wsL_law_r13 [438, 439, 440, 441, 442, 443, 444, 445, 446, 447, 448, 449, 450, 451, 452, 453, 454, 455, 456, 458, 19, 459, 460, 461] (by decide +kernel) (by decide +kernel)
set_option maxRecDepth 20000 in
theorem il_wsL_law_r14 : GoodIn lw_tbl wsL_law_r14 := goodIn_r wsL_law_r14 [462, 463, 132, 128, 123, 464, 466, 20, 467, 468, 469, 471, 21, 472, 473, 475, 22, 476, 477, 479, 23, 480, 481, 482] (by decide +kernel) (by decide +kernel)
set_option maxRecDepth 20000 in
theorem il_wsL_law_r15 : GoodIn lw_tbl wsL_law_r15 := goodIn_r wsL_law_r15 [484, 24, 485, 486, 487, 488, 489, 490, 491, 493, 25, 494, 495, 496, 497, 498, 499, 826, 827, 828, 829, 762, 768, 774] (by decide +kernel) (by decide +kernel)
set_option maxRecDepth 20000 in
theorem il_wsL_law_r16 : GoodIn lw_tbl wsL_law_r16 := goodIn_r wsL_law_r16 [764, 769, 767, 830, 832, 36, 833, 765, 771, 760, 773, 834, 836, 37, 837, 838, 840, 38, 841, 759, 766, 770, 842, 844] (by decide +kernel) (by decide +kernel)
set_option maxRecDepth 20000 in
theorem il_wsL_law_r17 : GoodIn lw_tbl wsL_law_r17 := goodIn_r wsL_law_r17 [39, 845, 846, 848, 40, 849, 850, 852, 41, 853, 854, 855, 856, 857, 859, 42, 860, 861, 863, 43, 864, 865, 867, 44] (by decide +kernel) (by decide +kernel)
set_option maxRecDepth 20000 in
theorem il_wsL_law_r18 : GoodIn lw_tbl wsL_law_r18 := goodIn_r wsL_law_r18 [868, 869, 871, 45, 872, 873, 875, 46, 876, 877, 879, 47, 880, 881, 883, 48, 884, 885, 887, 49, 888, 889, 891, 50] (by decide +kernel) (by decide +kernel)
set_option maxRecDepth 20000 in
theorem il_wsL_law_r19 : GoodIn lw_tbl wsL_law_r19 := goodIn_r wsL_law_r19 [892, 893, 895, 51, 896, 897, 899, 52, 900, 901, 903, 53, 904, 905, 907, 54, 908, 909, 911, 55, 912, 913, 915, 56] (by decide +kernel) (by decide +kernel)
set_option maxRecDepth 20000 in
theorem il_wsL_law_r20 : GoodIn lw_tbl wsL_law_r20 := goodIn_r wsL_law_r20 [916, 917, 919, 57, 920, 921, 923, 58, 924, 925, 927, 59, 928, 929, 931, 60, 932, 933, 935, 61, 936, 937, 939, 62] (by decide +kernel) (by decide +kernel)
set_option maxRecDepth 20000 in
theorem il_wsL_law_r21 : GoodIn lw_tbl wsL_law_r21 := goodIn_r wsL_law_r21 [940, 500, 501, 502, 503, 504, 505, 506, 507, 508, 509, 510, 511, 512, 1007, 1008, 1009, 1010, 1011, 1013, 76, 1014, 513, 514] (by decide +kernel) (by decide +kernel)
set_option maxRecDepth 20000 in
theorem il_wsL_law_r22 : GoodIn lw_tbl wsL_law_r22 := goodIn_r wsL_law_r22 [515, 516, 517, 518, 519, 520, 1015, 1016, 1017, 1018, 521, 522, 523, 524, 525, 526, 527, 528, 131, 529, 530, 531, 532, 534] (by decide +kernel) (by decide +kernel)
set_option maxRecDepth 20000 in
theorem il_wsL_law_r23 : GoodIn lw_tbl wsL_law_r23 := goodIn_r wsL_law_r23 [536, 26, 537, 179, 538, 539, 540, 542, 27, 543, 124, 120, 544, 545, 546, 547, 548, 550, 28, 551, 552, 553, 554, 555] (by decide +kernel) (by decide +kernel)
set_option maxRecDepth 20000 in
theorem il_wsL_law_r24 : GoodIn lw_tbl wsL_law_r24 := goodIn_r wsL_law_r24 [556, 558, 29, 559, 560, 561, 562, 563, 564, 565, 566, 567, 569, 30, 570, 571, 572, 573, 574, 575, 576, 577, 578, 579] (by decide +kernel) (by decide +kernel)
set_option maxRecDepth 20000 in
theorem il_wsL_law_r25 : GoodIn lw_tbl wsL_law_r25 := goodIn_r wsL_law_r25 [580, 581, 582, 583, 584, 585, 586, 587, 588, 941, 942, 943, 944, 758, 945, 946, 947, 948, 949, 950, 951, 953, 63, 954] (by decide +kernel) (by decide +kernel)
set_option maxRecDepth 20000 in
theorem il_wsL_law_r26 : GoodIn lw_tbl wsL_law_r26 := goodIn_r wsL_law_r26 [955, 957, 64, 958, 959, 961, 65, 962, 963, 965, 66, 966, 967, 969, 67, 970, 971, 973, 68, 974, 975, 977, 69, 978] (by decide +kernel) (by decide +kernel)
set_option maxRecDepth 20000 in
theorem il_wsL_law_r27 : GoodIn lw_tbl wsL_law_r27 := goodIn_r wsL_law_r27 [979, 981, 70, 982, 983, 985, 71, 986, 987, 989, 72, 990, 991, 993, 73, 994, 995, 997, 74, 998, 589, 590, 591, 592] (by decide +kernel) (by decide +kernel)
set_option maxRecDepth 20000 in
theorem il_wsL_law_r28 : GoodIn lw_tbl wsL_law_r28 := goodIn_r wsL_law_r28 [593, 594, 595, 596, 597, 599, 31, 600, 601, 602, 603, 604, 605, 606, 608, 32, 609, 610, 611, 613, 33, 614, 615, 999] (by decide +kernel) (by decide +kernel)
set_option maxRecDepth 20000 in
theorem il_wsL_law_r29 : GoodIn lw_tbl wsL_law_r29 := goodIn_p wsL_law_r29 [1002, 1006, 619, 1022, 660] (by decide +kernel) (by decide +kernel)
set_option maxRecDepth 20000 in
theorem il_wsL_law_r30 : GoodIn lw_tbl wsL_law_r30 := goodIn_r wsL_law_r30 [661, 662, 93, 731, 1023, 1024, 1025, 1026, 620, 621, 622, 623, 624, 625, 626, 627, 628, 629, 630, 631, 632, 633, 1027, 1028] (by decide +kernel) (by decide +kernel)
set_option maxRecDepth 20000 in
theorem il_wsL_law_r31 : GoodIn lw_tbl wsL_law_r31 := goodIn_r wsL_law_r31 [1029, 1030, 1031, 1033, 77, 1034, 634, 635, 636, 637, 134, 1035, 1036, 1037, 1038, 638, 639, 640, 641, 1039, 1040, 1041, 1042, 642] (by decide +kernel) (by decide +kernel)
set_option maxRecDepth 20000 in
theorem il_wsL_law_r32 : GoodIn lw_tbl wsL_law_r32 := goodIn_p wsL_law_r32 [645, 1046, 738, 1050, 649] (by decide +kernel) (by decide +kernel)
set_option maxRecDepth 20000 in
theorem il_wsL_law_r33 : GoodIn lw_tbl wsL_law_r33 := goodIn_r wsL_law_r33 [121, 129, 229, 200, 180, 1051, 1052, 1053, 1054] (by decide +kernel) (by decide +kernel)
set_option maxRecDepth 20000 in
theorem il_wsX50 : GoodIn lw_tbl wsX50 := goodIn_r wsX50 [257, 259, 261, 263, 265, 267] (by decide +kernel) (by decide +kernel)
set_option maxRecDepth 20000 in
theorem il_wsX60 : GoodIn lw_tbl wsX60 := goodIn_r wsX60 [775, 777, 779, 781, 783, 785, 787, 789, 791, 793, 795, 797, 799, 801, 803, 805, 807, 809, 811, 813, 815, 817, 819, 821, 823] (by decide +kernel) (by decide +kernel)
set_option maxRecDepth 20000 in
theorem il_wsX30 : GoodIn lw_tbl wsX30 := goodIn_r wsX30 [135, 137, 139, 141, 143, 145, 147, 149] (by decide +kernel) (by decide +kernel)
set_option maxRecDepth 20000 in
theorem il_wsX40 : GoodIn lw_tbl wsX40 := goodIn_r wsX40 [181, 183, 185] (by decide +kernel) (by decide +kernel)
set_option maxRecDepth 20000 in
theorem il_wsX20 : GoodIn lw_tbl wsX20 := goodIn_r wsX20 [201, 203, 205, 207] (by decide +kernel) (by decide +kernel)
set_option maxRecDepth 20000 in
theorem il_wsX10 : GoodIn lw_tbl wsX10 := goodIn_r wsX10 [230, 232, 234, 236, 238, 240, 242, 244, 246, 248] (by decide +kernel) (by decide +kernel)
set_option maxRecDepth 20000 in
theorem il_wsX00 : GoodIn lw_tbl wsX00 := goodIn_r wsX00 [169, 171] (by decide +kernel) (by decide +kernel)
set_option maxRecDepth 20000 in
theorem il_wsJx000600 : GoodIn lw_tbl wsJx000600 := goodIn_r wsJx000600 [674, 676, 678, 680, 682, 727] (by decide +kernel) (by decide +kernel)
