set_option maxRecDepth 20000 in
theorem il_wsL_law_r1 : GoodIn lw_tbl wsL_law_r1 := goodIn_p wsL_law_r1 [652, 98, 101] (by decide +kernel) (by decide +kernel)
set_option maxRecDepth 20000 in
theorem il_wsL_law_r2 : GoodIn lw_tbl wsL_law_r2 := goodIn_p wsL_law_r2 [106, 110, 113] (by decide +kernel) (by decide +kernel)
set_option maxRecDepth 20000 in
theorem il_wsL_law_r3 : GoodIn lw_tbl wsL_law_r3 := goodIn_p wsL_law_r3 [157, 163] (by decide +kernel) (by decide +kernel)
set_option maxRecDepth 20000 in
theorem il_wsL_law_r4 : GoodIn lw_tbl wsL_law_r4 := goodIn_p wsL_law_r4 [192, 214] (by decide +kernel) (by decide +kernel)
set_option maxRecDepth 20000 in
theorem il_wsL_law_r5 : GoodIn lw_tbl wsL_law_r5 := goodIn_p wsL_law_r5 [744, 749, 273] (by decide +kernel) (by decide +kernel)
set_option maxRecDepth 20000 in
theorem il_wsL_law_r6 : GoodIn lw_tbl wsL_law_r6 := goodIn_p wsL_law_r6 [277, 281, 285] (by decide +kernel) (by decide +kernel)
set_option maxRecDepth 20000 in
theorem il_wsL_law_r7 : GoodIn lw_tbl wsL_law_r7 := goodIn_p wsL_law_r7 [300, 304, 308, 312, 316, 320] (by decide +kernel) (by decide +kernel)
set_option maxRecDepth 20000 in
theorem il_wsL_law_r8 : GoodIn lw_tbl wsL_law_r8 := goodIn_p wsL_law_r8 [323, 327, 331, 335, 339, 343] (by decide +kernel) (by decide +kernel)
set_option maxRecDepth 20000 in
theorem il_wsL_law_r9 : GoodIn lw_tbl wsL_law_r9 := goodIn_p wsL_law_r9 [346, 350, 355, 359, 363, 367] (by decide +kernel) (by decide +kernel)
set_option maxRecDepth 20000 in
theorem il_wsL_law_r10 : GoodIn lw_tbl wsL_law_r10 := goodIn_p wsL_law_r10 [371, 375, 379, 384, 388] (by decide +kernel) (by decide +kernel)
set_option maxRecDepth 20000 in
theorem il_wsL_law_r11 : GoodIn lw_tbl wsL_law_r11 := goodIn_p wsL_law_r11 [392, 396, 400, 404, 408, 413] (by decide +kernel) (by decide +kernel)
set_option maxRecDepth 20000 in
theorem il_wsL_law_r12 : GoodIn lw_tbl wsL_law_r12 := goodIn_p wsL_law_r12 [417, 421, 425, 429, 433, 437] (by decide +kernel) (by decide +kernel)
set_option maxRecDepth 20000 in
theorem il_wsL_law_r13 : GoodIn lw_tbl wsL_law_r13 := goodIn_p wsL_law_r13 [441, 445, 449, 455, 459] (by decide +kernel) (by decide +kernel)
set_option maxRecDepth 20000 in
theorem il_wsL_law_r14 : GoodIn lw_tbl wsL_law_r14 := goodIn_p wsL_law_r14 [463, 467, 472, 476, 480] (by decide +kernel) (by decide +kernel)
set_option maxRecDepth 20000 in
theorem il_wsL_law_r15 : GoodIn lw_tbl wsL_law_r15 := goodIn_p wsL_law_r15 [485, 490, 494, 498, 833] (by decide +kernel) (by decide +kernel)
set_option maxRecDepth 20000 in
theorem il_wsL_law_r16 : GoodIn lw_tbl wsL_law_r16 := goodIn_p wsL_law_r16 [837, 841, 845] (by decide +kernel) (by decide +kernel)
set_option maxRecDepth 20000 in
theorem il_wsL_law_r17 : GoodIn lw_tbl wsL_law_r17 := goodIn_p wsL_law_r17 [849, 853, 857, 860, 864, 868] (by decide +kernel) (by decide +kernel)
set_option maxRecDepth 20000 in
theorem il_wsL_law_r18 : GoodIn lw_tbl wsL_law_r18 := goodIn_p wsL_law_r18 [872, 876, 880, 884, 888, 892] (by decide +kernel) (by decide +kernel)
set_option maxRecDepth 20000 in
theorem il_wsL_law_r19 : GoodIn lw_tbl wsL_law_r19 := goodIn_p wsL_law_r19 [896, 900, 904, 908, 912, 916] (by decide +kernel) (by decide +kernel)
set_option maxRecDepth 20000 in
theorem il_wsL_law_r20 : GoodIn lw_tbl wsL_law_r20 := goodIn_p wsL_law_r20 [920, 924, 928, 932, 936, 940] (by decide +kernel) (by decide +kernel)
set_option maxRecDepth 20000 in
theorem il_wsL_law_r21 : GoodIn lw_tbl wsL_law_r21 := goodIn_p wsL_law_r21 [944, 503, 507, 511, 1014, 1018] (by decide +kernel) (by decide +kernel)
set_option maxRecDepth 20000 in
theorem il_wsL_law_r22 : GoodIn lw_tbl wsL_law_r22 := goodIn_p wsL_law_r22 [516, 520, 1022, 524, 528, 531] (by decide +kernel) (by decide +kernel)
set_option maxRecDepth 20000 in
theorem il_wsL_law_r23 : GoodIn lw_tbl wsL_law_r23 := goodIn_p wsL_law_r23 [537, 543, 547, 551, 555] (by decide +kernel) (by decide +kernel)
set_option maxRecDepth 20000 in
theorem il_wsL_law_r24 : GoodIn lw_tbl wsL_law_r24 := goodIn_p wsL_law_r24 [559, 563, 570, 576] (by decide +kernel) (by decide +kernel)
set_option maxRecDepth 20000 in
theorem il_wsL_law_r25 : GoodIn lw_tbl wsL_law_r25 := goodIn_p wsL_law_r25 [582, 588, 948, 951, 954, 958] (by decide +kernel) (by decide +kernel)
set_option maxRecDepth 20000 in
theorem il_wsL_law_r26 : GoodIn lw_tbl wsL_law_r26 := goodIn_p wsL_law_r26 [962, 966, 970, 974, 978, 982] (by decide +kernel) (by decide +kernel)
set_option maxRecDepth 20000 in
theorem il_wsL_law_r27 : GoodIn lw_tbl wsL_law_r27 := goodIn_p wsL_law_r27 [986, 990, 994, 998, 1002, 592] (by decide +kernel) (by decide +kernel)
set_option maxRecDepth 20000 in
theorem il_wsL_law_r28 : GoodIn lw_tbl wsL_law_r28 := goodIn_p wsL_law_r28 [596, 600, 605, 609, 614] (by decide +kernel) (by decide +kernel)
set_option maxRecDepth 20000 in
theorem il_wsL_law_r29 : GoodIn lw_tbl wsL_law_r29 := goodIn_p wsL_law_r29 [1006, 1010, 619, 1026, 660] (by decide +kernel) (by decide +kernel)
set_option maxRecDepth 20000 in
theorem il_wsL_law_r30 : GoodIn lw_tbl wsL_law_r30 := goodIn_p wsL_law_r30 [1030, 829, 623, 627] (by decide +kernel) (by decide +kernel)
set_option maxRecDepth 20000 in
theorem il_wsL_law_r31 : GoodIn lw_tbl wsL_law_r31 := goodIn_p wsL_law_r31 [633, 1034, 1038, 637, 1042, 641] (by decide +kernel) (by decide +kernel)
set_option maxRecDepth 20000 in
theorem il_wsL_law_r32 : GoodIn lw_tbl wsL_law_r32 := goodIn_p wsL_law_r32 [1046, 645, 1050, 738, 1054] (by decide +kernel) (by decide +kernel)
set_option maxRecDepth 20000 in
theorem il_wsL_law_r33 : GoodIn lw_tbl wsL_law_r33 := goodIn_p wsL_law_r33 [649, 1058] (by decide +kernel) (by decide +kernel)
set_option maxRecDepth 20000 in
theorem il_wsX50 : GoodIn lw_tbl wsX50 := goodIn_p wsX50 [] (by decide +kernel) (by decide +kernel)
set_option maxRecDepth 20000 in
theorem il_wsX60 : GoodIn lw_tbl wsX60 := goodIn_p wsX60 [] (by decide +kernel) (by decide +kernel)
set_option maxRecDepth 20000 in
theorem il_wsX30 : GoodIn lw_tbl wsX30 := goodIn_p wsX30 [] (by decide +kernel) (by decide +kernel)
set_option maxRecDepth 20000 in
theorem il_wsX40 : GoodIn lw_tbl wsX40 := goodIn_p wsX40 [] (by decide +kernel) (by decide +kernel)
set_option maxRecDepth 20000 in
theorem il_wsX20 : GoodIn lw_tbl wsX20 := goodIn_p wsX20 [] (by decide +kernel) (by decide +kernel)
set_option maxRecDepth 20000 in
theorem il_wsX10 : GoodIn lw_tbl wsX10 := goodIn_p wsX10 [] (by decide +kernel) (by decide +kernel)
set_option maxRecDepth 20000 in
theorem il_wsX00 : GoodIn lw_tbl wsX00 := goodIn_p wsX00 [] (by decide +kernel) (by decide +kernel)
set_option maxRecDepth 20000 in
theorem il_wsJx000600 : GoodIn lw_tbl wsJx000600 := goodIn_p wsJx000600 [] (by decide +kernel) (by decide +kernel)
