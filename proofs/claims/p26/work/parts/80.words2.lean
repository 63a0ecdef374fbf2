set_option maxRecDepth 100000 in
theorem ggL_law_X11_count : GoodIn lw_tbl wsX11_count := goodIn_ca (goodIn_r _ [218, 219, 32, 196, 116, 85, 87, 89, 114, 63, 92, 198, 133, 287, 288, 289, 20, 290, 84, 90, 291, 292, 293, 294, 86, 295, 296, 297, 298, 83, 78, 299, 300, 29, 301, 302, 303, 304, 305, 80, 306, 307, 308, 309, 310, 30, 311, 312, 313, 314, 315, 316, 31, 317, 318, 319, 320, 321, 322, 323, 324, 88, 81, 325, 326, 327, 19, 328, 62, 329, 330, 331, 332, 333, 334, 335, 336, 59, 337, 338, 340, 1, 341, 342, 343, 34, 344, 345, 346, 347, 348, 349, 350, 351, 353, 2, 354, 355, 356, 357, 358, 359, 360, 361, 362, 364, 3, 365, 366, 368, 4, 369, 370, 371, 372, 373, 60, 202, 204, 206, 208, 210, 212, 117, 119, 93, 95, 97, 99, 101, 103, 105, 107, 109, 64, 66, 68, 134, 136] (by decide +kernel) (by decide +kernel)) (goodIn_sub in_x1 (by decide +kernel))
set_option maxRecDepth 100000 in
theorem gL_law_X11_count : GoodIn lw_tbl (wsV RL 58 RX11 yX11_count wsX11_count) := goodIn_app (goodIn_r _ [215, 216, 217, 17] (by decide +kernel) (by decide +kernel)) ggL_law_X11_count
set_option maxRecDepth 100000 in
theorem ggL_law_L_cell : GoodIn lw_tbl wsL_cell := goodIn_r _ [376, 377] (by decide +kernel) (by decide +kernel)
set_option maxRecDepth 100000 in
theorem gL_law_L_cell : GoodIn lw_tbl (va_wsS RL 117 yL_cell wsL_cell) := goodIn_app (goodIn_r _ [374, 375, 16] (by decide +kernel) (by decide +kernel)) ggL_law_L_cell
