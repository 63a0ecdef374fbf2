theorem inP {ws : List Cond} (ps : List Nat) (h : ws = ps.filterMap (fun i => lw_tbl[i]?)) : ∀ w ∈ ws, w ∈ lw_tbl := by
  intro w hw
  rw [h] at hw
  obtain ⟨i, -, hi⟩ := List.mem_filterMap.mp hw
  exact List.mem_of_getElem? hi
set_option maxRecDepth 100000 in
theorem in_wsX00 : ∀ w ∈ wsX00, w ∈ lw_tbl := inP [208, 210] (by decide +kernel)
set_option maxRecDepth 100000 in
theorem in_wsX10 : ∀ w ∈ wsX10, w ∈ lw_tbl := inP [120, 122, 124] (by decide +kernel)
set_option maxRecDepth 100000 in
theorem in_wsX20 : ∀ w ∈ wsX20, w ∈ lw_tbl := inP [190, 192] (by decide +kernel)
set_option maxRecDepth 100000 in
theorem in_wsX30 : ∀ w ∈ wsX30, w ∈ lw_tbl := inP [] (by decide +kernel)
set_option maxRecDepth 100000 in
theorem in_wsX40 : ∀ w ∈ wsX40, w ∈ lw_tbl := inP [225, 227, 229, 231, 233, 235] (by decide +kernel)
set_option maxRecDepth 100000 in
theorem in_wsX50 : ∀ w ∈ wsX50, w ∈ lw_tbl := inP [] (by decide +kernel)
set_option maxRecDepth 100000 in
theorem in_wsX60 : ∀ w ∈ wsX60, w ∈ lw_tbl := inP [] (by decide +kernel)
set_option maxRecDepth 100000 in
theorem in_wsX70 : ∀ w ∈ wsX70, w ∈ lw_tbl := inP [149, 151, 153, 155, 157, 159, 161, 163, 165] (by decide +kernel)
set_option maxRecDepth 100000 in
theorem in_wsX80 : ∀ w ∈ wsX80, w ∈ lw_tbl := inP [173, 175] (by decide +kernel)
set_option maxRecDepth 100000 in
theorem in_wsX90 : ∀ w ∈ wsX90, w ∈ lw_tbl := inP [] (by decide +kernel)
set_option maxRecDepth 100000 in
theorem in_wsX100 : ∀ w ∈ wsX100, w ∈ lw_tbl := inP [247, 249, 251] (by decide +kernel)
set_option maxRecDepth 100000 in
theorem in_wsX110 : ∀ w ∈ wsX110, w ∈ lw_tbl := inP [260, 262, 264, 266, 268, 270] (by decide +kernel)
set_option maxRecDepth 100000 in
theorem in_wsX120 : ∀ w ∈ wsX120, w ∈ lw_tbl := inP [936, 938, 940, 942, 944, 946, 948, 950, 952, 954, 956, 958, 960, 962] (by decide +kernel)
set_option maxRecDepth 100000 in
theorem in_wsJxe99ae0 : ∀ w ∈ wsJxe99ae0, w ∈ lw_tbl := inP [] (by decide +kernel)
set_option maxRecDepth 100000 in
theorem in_wsJ60 : ∀ w ∈ wsJ60, w ∈ lw_tbl := inP [] (by decide +kernel)
set_option maxRecDepth 100000 in
theorem in_wsJ130 : ∀ w ∈ wsJ130, w ∈ lw_tbl := inP [] (by decide +kernel)
set_option maxRecDepth 100000 in
theorem in_wsJ90 : ∀ w ∈ wsJ90, w ∈ lw_tbl := inP [] (by decide +kernel)
set_option maxRecDepth 100000 in
theorem in_wsJ00 : ∀ w ∈ wsJ00, w ∈ lw_tbl := inP [] (by decide +kernel)
set_option maxRecDepth 100000 in
theorem in_wsJ100 : ∀ w ∈ wsJ100, w ∈ lw_tbl := inP [] (by decide +kernel)
set_option maxRecDepth 100000 in
theorem in_x0 : ∀ w ∈ (vx_atS RX11 55 "java/lang/IllegalArgumentException" ["java/lang/RuntimeException", "java/lang/Exception"]).filter goodWord, w ∈ lw_tbl := inP [79, 520, 529, 533, 536, 538, 521, 522, 100, 101, 523, 528, 534, 554, 510, 555, 512, 556, 514, 524, 526, 516, 550, 551, 553, 516, 541, 542, 543, 544, 544, 545, 546, 547, 547, 548, 549, 550, 540, 499, 507, 508, 509, 511, 513, 515, 519, 518, 517] (by decide +kernel)
set_option maxRecDepth 100000 in
theorem in_x1 : ∀ w ∈ (vx_atS RX11 72 "java/lang/IllegalStateException" ["java/lang/RuntimeException", "java/lang/Exception"]).filter goodWord, w ∈ lw_tbl := inP [79, 520, 529, 533, 536, 538, 521, 522, 100, 101, 523, 528, 534, 554, 510, 555, 512, 556, 514, 524, 526, 516, 550, 551, 553, 516, 735, 736, 737, 544, 544, 545, 546, 547, 547, 548, 549, 550, 734, 725, 727, 531, 728, 729, 730, 731, 519, 518, 732] (by decide +kernel)
set_option maxRecDepth 100000 in
theorem in_x2 : ∀ w ∈ (vx_atS RX11 121 "java/lang/IndexOutOfBoundsException" ["java/lang/RuntimeException", "java/lang/Exception"]).filter goodWord, w ∈ lw_tbl := inP [79, 520, 529, 533, 536, 538, 521, 522, 100, 101, 523, 528, 534, 554, 510, 555, 512, 556, 514, 524, 526, 516, 550, 551, 553, 516, 624, 625, 626, 544, 544, 545, 546, 547, 547, 548, 549, 550, 623, 614, 616, 532, 617, 618, 619, 620, 519, 518, 621] (by decide +kernel)
set_option maxRecDepth 100000 in
theorem ggL_law_X11_init : GoodIn lw_tbl wsX11_init := goodIn_r _ [98, 99, 100, 101, 102, 103, 71, 254, 255, 178, 179, 74, 256, 195, 196, 75, 257, 213, 214, 76, 258, 238, 239, 77, 259, 105, 106, 107, 108, 109, 72, 169, 128, 129, 73, 171, 111, 112, 113, 127, 114, 115, 117, 131, 132, 133, 168, 134, 136, 137, 139, 140, 142, 144, 146, 147, 180, 181, 182, 183, 184, 187, 188, 198, 199, 200, 201, 204, 216, 217, 218, 219, 220, 221, 222, 223, 224, 241, 242, 243, 244, 245, 246, 173, 175, 260, 262, 264, 266, 268, 270, 190, 192, 208, 210, 225, 227, 229, 231, 233, 235, 247, 249, 251, 120, 122, 124, 149, 151, 153, 155, 157, 159, 161, 163, 165] (by decide +kernel) (by decide +kernel)
set_option maxRecDepth 100000 in
theorem gL_law_X11_init : GoodIn lw_tbl (wsX11_init) := ggL_law_X11_init
set_option maxRecDepth 100000 in
theorem ggL_law_X12_init : GoodIn lw_tbl wsX12_init := goodIn_r _ [920, 921, 100, 101, 168, 923, 925, 927, 929, 930, 933, 934, 936, 938, 940, 942, 944, 946, 948, 950, 952, 954, 956, 958, 960, 962] (by decide +kernel) (by decide +kernel)
set_option maxRecDepth 100000 in
theorem gL_law_X12_init : GoodIn lw_tbl (wsX12_init) := ggL_law_X12_init
