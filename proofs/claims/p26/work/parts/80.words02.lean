set_option maxRecDepth 100000 in
theorem in_x1 : ∀ w ∈ (vx_atS RX11 55 "java/lang/IllegalArgumentException" ["java/lang/RuntimeException", "java/lang/Exception"]).filter goodWord, w ∈ lw_tbl := inP [25, 241, 250, 254, 257, 259, 242, 243, 45, 46, 244, 249, 255, 275, 231, 276, 233, 277, 235, 245, 247, 237, 271, 272, 274, 237, 262, 263, 264, 265, 265, 266, 267, 268, 268, 269, 270, 271, 261, 220, 228, 229, 230, 232, 234, 236, 240, 239, 238] (by decide +kernel)
set_option maxRecDepth 100000 in
theorem in_x2 : ∀ w ∈ (vx_atS RX11 72 "java/lang/IllegalStateException" ["java/lang/RuntimeException", "java/lang/Exception"]).filter goodWord, w ∈ lw_tbl := inP [25, 241, 250, 254, 257, 259, 242, 243, 45, 46, 244, 249, 255, 275, 231, 276, 233, 277, 235, 245, 247, 237, 271, 272, 274, 237, 628, 629, 630, 265, 265, 266, 267, 268, 268, 269, 270, 271, 627, 618, 620, 252, 621, 622, 623, 624, 240, 239, 625] (by decide +kernel)
theorem goodIn_cons {big ws : List Cond} {w : Cond} (h : w ∈ big) (d : goodWord w = true) (t : GoodIn big ws) : GoodIn big (w :: ws) := fun x hx => (List.mem_cons.mp hx).elim (fun e => by rw [e]; exact ⟨h, good_of_word d⟩) (t x)
set_option maxRecDepth 100000 in
theorem gq_wsX11_init_r1 : GoodIn lw_tbl wsX11_init_r1 := goodIn_r _ [44, 45, 46, 47, 48, 18, 196, 197, 122, 123, 21, 198, 139, 140, 22, 199, 155, 156, 23, 200, 180, 181, 24, 201] (by decide +kernel) (by decide +kernel)
set_option maxRecDepth 100000 in
theorem gq_wsX11_init_r2 : GoodIn lw_tbl wsX11_init_r2 := goodIn_r _ [50, 51, 52, 53, 54, 19, 113, 72, 73, 20, 115, 56, 57, 58, 71, 59, 60, 62, 75, 76, 77, 112, 78, 80] (by decide +kernel) (by decide +kernel)
set_option maxRecDepth 100000 in
theorem gq_wsX11_init_r3 : GoodIn lw_tbl wsX11_init_r3 := goodIn_r _ [81, 83, 84, 86, 88, 90, 91, 124, 125, 126, 127, 128, 131, 132, 142, 143, 144, 145, 147, 158, 159, 160, 161, 162] (by decide +kernel) (by decide +kernel)
set_option maxRecDepth 100000 in
theorem gq_wsX11_init_r4 : GoodIn lw_tbl wsX11_init_r4 := goodIn_r _ [163, 164, 165, 166, 183, 184, 185, 186, 187, 188] (by decide +kernel) (by decide +kernel)
set_option maxRecDepth 100000 in
theorem ggL_law_X11_init : GoodIn lw_tbl wsX11_init := (goodIn_cons (List.mem_append_right _ (show _ ∈ tables_1_1 ++ (tables_1_2 ++ (tables_1_3 ++ tables_1_4)) from List.mem_append_left _ (List.mem_of_getElem? (i := 27) rfl))) (by decide) (goodIn_app (goodIn_app (goodIn_app (goodIn_app (goodIn_app (goodIn_app (goodIn_app (goodIn_app (goodIn_app gq_wsX11_init_r1 (goodIn_app gq_wsX11_init_r2 (goodIn_app gq_wsX11_init_r3 gq_wsX11_init_r4))) (goodIn_sub in_wsX80 (by decide +kernel))) (goodIn_sub in_wsX110 (by decide +kernel))) (goodIn_sub in_wsX20 (by decide +kernel))) (goodIn_sub in_wsX00 (by decide +kernel))) (goodIn_sub in_wsX40 (by decide +kernel))) (goodIn_sub in_wsX100 (by decide +kernel))) (goodIn_sub in_wsX10 (by decide +kernel))) (goodIn_sub in_wsX70 (by decide +kernel))))
set_option maxRecDepth 100000 in
theorem gL_law_X11_init : GoodIn lw_tbl (wsX11_init) := ggL_law_X11_init
set_option maxRecDepth 100000 in
theorem cw_0 : (Cond.code yL_told cL_told 21 (some .boolean)) ∈ lw_tbl := List.mem_append_right _ (show _ ∈ tables_1_1 ++ (tables_1_2 ++ (tables_1_3 ++ tables_1_4)) from List.mem_append_right _ (List.mem_append_left _ (List.mem_of_getElem? (i := 127) rfl)))
