set_option maxRecDepth 100000 in
theorem gq_wsL_ahead_r5 : GoodIn lw_tbl wsL_ahead_r5 := goodIn_r _ [558, 559, 560, 561, 562, 563, 564, 565, 566, 567, 568, 569, 570, 571, 34, 572, 573, 307, 308, 574, 575, 576, 348, 349] (by decide +kernel) (by decide +kernel)
set_option maxRecDepth 100000 in
theorem gq_wsL_ahead_r6 : GoodIn lw_tbl wsL_ahead_r6 := goodIn_r _ [350, 355, 356, 357, 358, 337, 300, 301, 577, 371, 372, 373, 578, 579, 580, 581, 334, 335, 336, 582, 343, 344, 345, 346] (by decide +kernel) (by decide +kernel)
set_option maxRecDepth 100000 in
theorem gq_wsL_ahead_r7 : GoodIn lw_tbl wsL_ahead_r7 := goodIn_r _ [347, 583, 584, 585, 586, 587, 288, 289, 290, 302, 303, 304, 305, 306, 291, 292, 293, 294, 295, 296, 297, 298, 299, 309] (by decide +kernel) (by decide +kernel)
set_option maxRecDepth 100000 in
theorem gq_wsL_ahead_r8 : GoodIn lw_tbl wsL_ahead_r8 := goodIn_r _ [310, 30, 311, 312, 313, 314, 315, 316, 31, 317, 318, 319, 320, 414, 415, 416, 417, 588, 589, 590, 591, 395, 28, 114] (by decide +kernel) (by decide +kernel)
set_option maxRecDepth 100000 in
theorem gq_wsL_ahead_r9 : GoodIn lw_tbl wsL_ahead_r9 := goodIn_r _ [463, 465, 6, 466, 63, 592, 593, 594, 595, 333, 596, 370, 597, 598, 599, 600, 601] (by decide +kernel) (by decide +kernel)
set_option maxRecDepth 100000 in
theorem ggL_law_L_ahead : GoodIn lw_tbl wsL_ahead := (goodIn_cons cw_5 rfl (goodIn_app (goodIn_app (goodIn_app (goodIn_app (goodIn_app (goodIn_app (goodIn_app gq_wsL_ahead_r1 (goodIn_app gq_wsL_ahead_r2 (goodIn_app gq_wsL_ahead_r3 (goodIn_app gq_wsL_ahead_r4 (goodIn_app gq_wsL_ahead_r5 (goodIn_app gq_wsL_ahead_r6 (goodIn_app gq_wsL_ahead_r7 (goodIn_app gq_wsL_ahead_r8 gq_wsL_ahead_r9)))))))) (goodIn_sub in_wsX110 (by decide +kernel))) (goodIn_sub in_wsX80 (by decide +kernel))) (goodIn_sub in_wsX70 (by decide +kernel))) (goodIn_sub in_wsX10 (by decide +kernel))) (goodIn_sub in_x1 (by decide +kernel))) (goodIn_sub in_x0 (by decide +kernel))))
set_option maxRecDepth 100000 in
theorem gL_law_L_ahead : GoodIn lw_tbl (va_wsS RL 126 yL_ahead wsL_ahead) := goodIn_app (goodIn_r _ [501, 502, 16] (by decide +kernel) (by decide +kernel)) ggL_law_L_ahead
