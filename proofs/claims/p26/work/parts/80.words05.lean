set_option maxRecDepth 100000 in
theorem ggL_law_L_cell : GoodIn lw_tbl wsL_cell := (goodIn_cons (List.mem_append_right _ (show _ ∈ tables_1_1 ++ (tables_1_2 ++ (tables_1_3 ++ tables_1_4)) from List.mem_append_right _ (List.mem_append_left _ (List.mem_of_getElem? (i := 120) rfl)))) (by decide) (goodIn_r [Cond.constant RL 7 (1160258022)] [377] (by decide +kernel) (by decide +kernel)))
set_option maxRecDepth 100000 in
theorem gL_law_L_cell : GoodIn lw_tbl (va_wsS RL 117 yL_cell wsL_cell) := goodIn_app (goodIn_r _ [374, 375, 16] (by decide +kernel) (by decide +kernel)) ggL_law_L_cell
set_option maxRecDepth 100000 in
theorem ggL_law_L_at : GoodIn lw_tbl wsL_at := (goodIn_cons (List.mem_append_right _ (show _ ∈ tables_1_1 ++ (tables_1_2 ++ (tables_1_3 ++ tables_1_4)) from List.mem_append_right _ (List.mem_append_left _ (List.mem_of_getElem? (i := 124) rfl)))) (by decide) (goodIn_r [] [] rfl rfl))
set_option maxRecDepth 100000 in
theorem gL_law_L_at : GoodIn lw_tbl (va_wsS RL 61 yL_at wsL_at) := goodIn_app (goodIn_r _ [378, 379, 16] (by decide +kernel) (by decide +kernel)) ggL_law_L_at
set_option maxRecDepth 100000 in
theorem cw_2 : (Cond.code yL_act cL_act 23 (some .boolean)) ∈ lw_tbl := List.mem_append_right _ (show _ ∈ tables_1_1 ++ (tables_1_2 ++ (tables_1_3 ++ tables_1_4)) from List.mem_append_right _ (List.mem_append_right _ (List.mem_append_left _ (List.mem_of_getElem? (i := 108) rfl))))
set_option maxRecDepth 100000 in
theorem cw_3 : (Cond.code yL_load cL_load 10 (some .boolean)) ∈ lw_tbl := List.mem_append_right _ (show _ ∈ tables_1_1 ++ (tables_1_2 ++ (tables_1_3 ++ tables_1_4)) from List.mem_append_right _ (List.mem_append_right _ (List.mem_append_left _ (List.mem_of_getElem? (i := 111) rfl))))
set_option maxRecDepth 100000 in
theorem gq_wsL_act_r1 : GoodIn lw_tbl wsL_act_r1 := (goodIn_app (goodIn_r [Cond.constantLong RL 36 (127), Cond.methodLink RL 88 yL_load, Cond.static yL_load, Cond.initialized RL] [432, 605, 606, 16] (by decide +kernel) (by decide +kernel)) (goodIn_cons cw_3 rfl (goodIn_r [Cond.methodLink RL 61 yL_at, Cond.static yL_at, Cond.code yL_at cL_at 2 (some .int), Cond.methodLink RL 78 yX11_clearBuffer, Cond.instanceMethod yX11_clearBuffer, Cond.selects RX11 yX11_clearBuffer yX11_clearBuffer, Cond.initialized RX11, Cond.code yX11_clearBuffer cX11_clearBuffer 2 (some .int), Cond.fieldLink RX11 29 "ChordDesk" "buffer" "LChordDesk$Buffer;", Cond.fieldLink RX11 181 "ChordDesk$Buffer" "length" "I", Cond.methodLink RL 82 yX11_append, Cond.instanceMethod yX11_append, Cond.selects RX11 yX11_append yX11_append, Cond.code yX11_append cX11_append 2 (some .int), Cond.classLink RX11 51 "java/lang/IllegalArgumentException", Cond.initialized "java/lang/IllegalArgumentException", Cond.classLink RX11 68 "java/lang/IllegalStateException", Cond.initialized "java/lang/IllegalStateException", Cond.methodLink RX11 186 yX0_add] [378, 379, 380, 608, 609, 610, 17, 611, 199, 149, 612, 613, 614, 615, 219, 32, 617, 36, 633] (by decide +kernel) (by decide +kernel))))
set_option maxRecDepth 100000 in
theorem gq_wsL_act_r2 : GoodIn lw_tbl wsL_act_r2 := goodIn_r _ [634, 635, 22, 636, 145, 147, 637, 555, 29, 556, 450, 451, 452, 456, 457, 458, 638, 639, 640, 641, 200, 197, 196, 114] (by decide +kernel) (by decide +kernel)
set_option maxRecDepth 100000 in
theorem gq_wsL_act_r3 : GoodIn lw_tbl wsL_act_r3 := goodIn_r _ [198, 63, 642, 643, 644, 23, 645, 148, 166, 646, 647, 648, 649, 146, 650, 652, 8, 653, 161, 162, 163, 164, 165, 654] (by decide +kernel) (by decide +kernel)
set_option maxRecDepth 100000 in
theorem gq_wsL_act_r4 : GoodIn lw_tbl wsL_act_r4 := goodIn_r _ [307, 308, 655, 657, 9, 658, 659, 661, 10, 662, 663, 664, 31, 665, 666, 668, 11, 669, 670, 671, 33, 672, 426, 427] (by decide +kernel) (by decide +kernel)
