set_option maxRecDepth 100000 in
theorem gq_wsL_act_r5 : GoodIn lw_tbl wsL_act_r5 := goodIn_r _ [428, 673, 675, 12, 676, 677, 679, 13, 680, 681, 575, 34, 576, 521, 522, 523, 18, 524, 113, 115, 525, 526, 527, 19] (by decide +kernel) (by decide +kernel)
set_option maxRecDepth 100000 in
theorem gq_wsL_act_r6 : GoodIn lw_tbl wsL_act_r6 := goodIn_r _ [528, 59, 60, 62, 529, 530, 531, 532, 533, 37, 534, 535, 537, 536, 38, 538, 539, 540, 20, 541, 78, 80, 81, 83] (by decide +kernel) (by decide +kernel)
set_option maxRecDepth 100000 in
theorem gq_wsL_act_r7 : GoodIn lw_tbl wsL_act_r7 := goodIn_r _ [84, 86, 88, 90, 91, 542, 543, 544, 545, 683, 684, 685, 686, 687, 688, 689, 690, 355, 356, 357, 358, 337, 300, 301] (by decide +kernel) (by decide +kernel)
set_option maxRecDepth 100000 in
theorem gq_wsL_act_r8 : GoodIn lw_tbl wsL_act_r8 := goodIn_r _ [691, 692, 693, 694, 596, 579, 580, 696, 697, 698, 21, 699, 132, 131, 700, 702, 14, 703, 704, 706, 15, 707, 708, 709] (by decide +kernel) (by decide +kernel)
set_option maxRecDepth 100000 in
theorem gq_wsL_act_r9 : GoodIn lw_tbl wsL_act_r9 := goodIn_r _ [597, 558, 559, 560, 561, 562, 563, 564, 565, 566, 567, 568, 569, 570, 571, 572, 573, 574, 348, 349, 350, 554, 577, 371] (by decide +kernel) (by decide +kernel)
set_option maxRecDepth 100000 in
theorem gq_wsL_act_r10 : GoodIn lw_tbl wsL_act_r10 := goodIn_r _ [372, 373, 578, 581, 334, 335, 336, 582, 343, 344, 345, 346, 347, 583, 584, 585, 586, 587, 288, 289, 290, 302, 303, 304] (by decide +kernel) (by decide +kernel)
set_option maxRecDepth 100000 in
theorem cw_4 : (Cond.code yL_translate cL_translate 12 none) ∈ lw_tbl := List.mem_append_right _ (show _ ∈ tables_1_1 ++ (tables_1_2 ++ (tables_1_3 ++ tables_1_4)) from List.mem_append_right _ (List.mem_append_right _ (List.mem_append_left _ (List.mem_of_getElem? (i := 13) rfl))))
set_option maxRecDepth 100000 in
theorem gq_wsL_act_r11 : GoodIn lw_tbl wsL_act_r11 := (goodIn_app (goodIn_r [Cond.code yX7_firstOf cX7_firstOf 2 (some .int), Cond.methodLink RX7 58 yX6_at, Cond.methodLink RL 68 yL_translate, Cond.static yL_translate] [305, 306, 507, 508] (by decide +kernel) (by decide +kernel)) (goodIn_cons cw_4 rfl (goodIn_r [Cond.methodLink RL 14 yL_goesOn, Cond.static yL_goesOn, Cond.code yL_goesOn cL_goesOn 6 (some .boolean), Cond.methodLink RL 18 yL_spelled, Cond.static yL_spelled, Cond.code yL_spelled cL_spelled 5 (some .long), Cond.methodLink RL 91 yX11_stroke, Cond.instanceMethod yX11_stroke, Cond.selects RX11 yX11_stroke yX11_stroke, Cond.code yX11_stroke cX11_stroke 2 (some .int), Cond.fieldLink RX11 58 "ChordDesk$State" "session" "LChordDesk$Session;", Cond.fieldLink RX11 62 "ChordDesk$Session" "strokeCount" "I", Cond.fieldLink RX11 81 "ChordDesk$Session" "itemCount" "I", Cond.methodLink RX11 47 yX11_isStroke, Cond.static yX11_isStroke, Cond.code yX11_isStroke cX11_isStroke 1 (some .boolean), Cond.methodLink RX11 77 yX8_press, Cond.instanceMethod yX8_press, Cond.selects RX8 yX8_press yX8_press] [510, 511, 512, 447, 448, 449, 710, 711, 712, 713, 116, 85, 87, 517, 518, 519, 546, 547, 548] (by decide +kernel) (by decide +kernel))))
set_option maxRecDepth 100000 in
theorem gq_wsL_act_r12 : GoodIn lw_tbl wsL_act_r12 := goodIn_r _ [549, 550, 551, 552, 553, 557, 716, 717, 718, 719, 79, 418, 721, 722, 723, 724, 725, 726, 727, 728, 598, 599, 600, 601] (by decide +kernel) (by decide +kernel)
set_option maxRecDepth 100000 in
theorem gq_wsL_act_r13 : GoodIn lw_tbl wsL_act_r13 := goodIn_r _ [729, 730, 731, 732, 733, 92, 504, 505, 506, 735, 736, 737, 738, 395, 28, 463, 465, 6, 466, 592, 593, 594, 595, 333] (by decide +kernel) (by decide +kernel)
