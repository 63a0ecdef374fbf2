set_option maxRecDepth 100000 in
theorem gq_wsL_told_r1 : GoodIn lw_tbl wsL_told_r1 := goodIn_r _ [432, 384, 385, 16, 386, 387, 388, 389, 17, 390, 395, 28, 219, 32, 196, 116, 82, 89, 391, 393, 5, 394, 87, 411] (by decide +kernel) (by decide +kernel)
set_option maxRecDepth 100000 in
theorem gq_wsL_told_r2 : GoodIn lw_tbl wsL_told_r2 := goodIn_r _ [296, 297, 20, 298, 83, 78, 299, 300, 29, 301, 302, 303, 304, 305, 86, 80, 84, 306, 307, 308, 309, 310, 30, 311] (by decide +kernel) (by decide +kernel)
set_option maxRecDepth 100000 in
theorem gq_wsL_told_r3 : GoodIn lw_tbl wsL_told_r3 := goodIn_r _ [312, 313, 314, 315, 316, 31, 317, 318, 319, 320, 413, 414, 415, 416, 417, 418, 419, 420, 421, 422, 423, 424, 33, 425] (by decide +kernel) (by decide +kernel)
set_option maxRecDepth 100000 in
theorem gq_wsL_told_r4 : GoodIn lw_tbl wsL_told_r4 := goodIn_r _ [426, 427, 428, 431, 433, 434, 435, 436, 85, 79, 439, 440, 441, 442, 443, 444, 445, 446, 447, 448, 449, 450, 451, 452] (by decide +kernel) (by decide +kernel)
set_option maxRecDepth 100000 in
theorem cw_1 : (Cond.code yL_clash cL_clash 7 (some .int)) ∈ lw_tbl := List.mem_append_right _ (show _ ∈ tables_1_1 ++ (tables_1_2 ++ (tables_1_3 ++ tables_1_4)) from List.mem_append_right _ (List.mem_append_left _ (List.mem_of_getElem? (i := 199) rfl)))
set_option maxRecDepth 100000 in
theorem gq_wsL_told_r5 : GoodIn lw_tbl wsL_told_r5 := (goodIn_app (goodIn_r [Cond.methodLink RL 44 yL_clash, Cond.static yL_clash] [453, 454] (by decide +kernel) (by decide +kernel)) (goodIn_cons cw_1 rfl (goodIn_r [Cond.methodLink RL 22 yL_has, Cond.static yL_has, Cond.code yL_has cL_has 5 (some .boolean), Cond.methodLink RL 48 yX11_entry, Cond.instanceMethod yX11_entry, Cond.selects RX11 yX11_entry yX11_entry, Cond.code yX11_entry cX11_entry 7 (some .int), Cond.fieldLink RX11 122 "ChordDesk$State" "dictionary" "LChordDesk$Dictionary;", Cond.methodLink RX11 114 yX11_isEntry, Cond.instanceMethod yX11_isEntry, Cond.selects RX11 yX11_isEntry yX11_isEntry, Cond.code yX11_isEntry cX11_isEntry 2 (some .boolean), Cond.fieldLink RX11 176 "ChordDesk$Dictionary" "size" "I", Cond.methodLink RX11 248 yX1_outlineOf, Cond.instanceMethod yX1_outlineOf, Cond.selects RX1 yX1_outlineOf yX1_outlineOf, Cond.initialized RX1, Cond.code yX1_outlineOf cX1_outlineOf 2 (some .long), Cond.fieldLink RX1 9 "ChordDesk$Dictionary" "outlines" "[J", Cond.methodLink RX1 28 yX6_at_, Cond.methodLink RX11 131 yX1_wordOf] [456, 457, 458, 459, 460, 461, 462, 114, 463, 465, 6, 466, 63, 469, 334, 335, 19, 336, 59, 337, 470] (by decide +kernel) (by decide +kernel))))
set_option maxRecDepth 100000 in
theorem gq_wsL_told_r6 : GoodIn lw_tbl wsL_told_r6 := goodIn_r _ [371, 372, 373, 60, 471, 343, 34, 344, 345, 346, 347, 472, 473, 474, 475, 476, 477, 330, 331, 332, 333, 338, 340, 1] (by decide +kernel) (by decide +kernel)
set_option maxRecDepth 100000 in
theorem gq_wsL_told_r7 : GoodIn lw_tbl wsL_told_r7 := goodIn_r _ [341, 62, 342, 348, 349, 350, 351, 353, 2, 354, 355, 356, 357, 358, 359, 360, 361, 362, 364, 3, 365, 366, 368, 4] (by decide +kernel) (by decide +kernel)
set_option maxRecDepth 100000 in
theorem gq_wsL_told_r8 : GoodIn lw_tbl wsL_told_r8 := goodIn_r _ [369, 370, 321, 322, 323, 324, 88, 81, 478, 479, 480, 481, 482, 483, 484, 485, 486, 487, 489, 7, 490, 491, 492, 35] (by decide +kernel) (by decide +kernel)
set_option maxRecDepth 100000 in
theorem gq_wsL_told_r9 : GoodIn lw_tbl wsL_told_r9 := goodIn_r _ [493, 494, 495, 496, 497, 498, 499, 500, 291, 292, 293, 294, 295, 215, 216, 217, 218, 92, 198, 133, 287, 288, 289, 290] (by decide +kernel) (by decide +kernel)
