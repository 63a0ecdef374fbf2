set_option maxRecDepth 100000 in
theorem gq_wsL_told_r10 : GoodIn lw_tbl wsL_told_r10 := goodIn_r _ [90, 325, 326, 327, 328, 329] (by decide +kernel) (by decide +kernel)
set_option maxRecDepth 100000 in
theorem ggL_law_L_told : GoodIn lw_tbl wsL_told := (goodIn_cons cw_0 rfl (goodIn_app (goodIn_app (goodIn_app (goodIn_app (goodIn_app (goodIn_app (goodIn_app (goodIn_app gq_wsL_told_r1 (goodIn_app gq_wsL_told_r2 (goodIn_app gq_wsL_told_r3 (goodIn_app gq_wsL_told_r4 (goodIn_app gq_wsL_told_r5 (goodIn_app gq_wsL_told_r6 (goodIn_app gq_wsL_told_r7 (goodIn_app gq_wsL_told_r8 (goodIn_app gq_wsL_told_r9 gq_wsL_told_r10))))))))) (goodIn_sub in_wsX110 (by decide +kernel))) (goodIn_sub in_wsX80 (by decide +kernel))) (goodIn_sub in_wsX70 (by decide +kernel))) (goodIn_sub in_wsX10 (by decide +kernel))) (goodIn_sub in_wsX20 (by decide +kernel))) (goodIn_sub in_x0 (by decide +kernel))) (goodIn_sub in_x1 (by decide +kernel))))
set_option maxRecDepth 100000 in
theorem gL_law_L_told : GoodIn lw_tbl (va_wsS RL 113 yL_told wsL_told) := goodIn_app (goodIn_r _ [381, 382, 16] (by decide +kernel) (by decide +kernel)) ggL_law_L_told
set_option maxRecDepth 100000 in
theorem gq_wsX11_count_r1 : GoodIn lw_tbl wsX11_count_r1 := goodIn_r _ [219, 32, 196, 116, 85, 87, 89, 114, 63, 92, 198, 133, 287, 288, 289, 20, 290, 84, 90, 291, 292, 293, 294, 86] (by decide +kernel) (by decide +kernel)
set_option maxRecDepth 100000 in
theorem gq_wsX11_count_r2 : GoodIn lw_tbl wsX11_count_r2 := goodIn_r _ [295, 296, 297, 298, 83, 78, 299, 300, 29, 301, 302, 303, 304, 305, 80, 306, 307, 308, 309, 310, 30, 311, 312, 313] (by decide +kernel) (by decide +kernel)
set_option maxRecDepth 100000 in
theorem gq_wsX11_count_r3 : GoodIn lw_tbl wsX11_count_r3 := goodIn_r _ [314, 315, 316, 31, 317, 318, 319, 320, 321, 322, 323, 324, 88, 81, 325, 326, 327, 19, 328, 62, 329, 330, 331, 332] (by decide +kernel) (by decide +kernel)
set_option maxRecDepth 100000 in
theorem gq_wsX11_count_r4 : GoodIn lw_tbl wsX11_count_r4 := goodIn_r _ [333, 334, 335, 336, 59, 337, 338, 340, 1, 341, 342, 343, 34, 344, 345, 346, 347, 348, 349, 350, 351, 353, 2, 354] (by decide +kernel) (by decide +kernel)
set_option maxRecDepth 100000 in
theorem gq_wsX11_count_r5 : GoodIn lw_tbl wsX11_count_r5 := goodIn_r _ [355, 356, 357, 358, 359, 360, 361, 362, 364, 3, 365, 366, 368, 4, 369, 370, 371, 372, 373, 60] (by decide +kernel) (by decide +kernel)
set_option maxRecDepth 100000 in
theorem ggL_law_X11_count : GoodIn lw_tbl wsX11_count := (goodIn_cons (List.mem_append_right _ (show _ ∈ tables_1_1 ++ (tables_1_2 ++ (tables_1_3 ++ tables_1_4)) from List.mem_append_left _ (List.mem_of_getElem? (i := 202) rfl))) (by decide) (goodIn_app (goodIn_app (goodIn_app (goodIn_app (goodIn_app (goodIn_app (goodIn_app gq_wsX11_count_r1 (goodIn_app gq_wsX11_count_r2 (goodIn_app gq_wsX11_count_r3 (goodIn_app gq_wsX11_count_r4 gq_wsX11_count_r5)))) (goodIn_sub in_wsX110 (by decide +kernel))) (goodIn_sub in_wsX80 (by decide +kernel))) (goodIn_sub in_wsX70 (by decide +kernel))) (goodIn_sub in_wsX10 (by decide +kernel))) (goodIn_sub in_wsX20 (by decide +kernel))) (goodIn_sub in_x1 (by decide +kernel))))
set_option maxRecDepth 100000 in
theorem gL_law_X11_count : GoodIn lw_tbl (wsV RL 58 RX11 yX11_count wsX11_count) := goodIn_app (goodIn_r _ [215, 216, 217, 17] (by decide +kernel) (by decide +kernel)) ggL_law_X11_count
