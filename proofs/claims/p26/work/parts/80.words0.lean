theorem inP {ws : List Cond} (ps : List Nat) (h : ws = ps.filterMap (fun i => lw_tbl[i]?)) : ∀ w ∈ ws, w ∈ lw_tbl := by
  intro w hw
  rw [h] at hw
  obtain ⟨i, -, hi⟩ := List.mem_filterMap.mp hw
  exact List.mem_of_getElem? hi
set_option maxRecDepth 100000 in
theorem in_wsX00 : ∀ w ∈ wsX00, w ∈ lw_tbl := inP [150, 152] (by decide +kernel)
set_option maxRecDepth 100000 in
theorem in_wsX10 : ∀ w ∈ wsX10, w ∈ lw_tbl := inP [64, 66, 68] (by decide +kernel)
set_option maxRecDepth 100000 in
theorem in_wsX20 : ∀ w ∈ wsX20, w ∈ lw_tbl := inP [134, 136] (by decide +kernel)
set_option maxRecDepth 100000 in
theorem in_wsX30 : ∀ w ∈ wsX30, w ∈ lw_tbl := inP [] (by decide +kernel)
set_option maxRecDepth 100000 in
theorem in_wsX40 : ∀ w ∈ wsX40, w ∈ lw_tbl := inP [167, 169, 171, 173, 175, 177] (by decide +kernel)
set_option maxRecDepth 100000 in
theorem in_wsX50 : ∀ w ∈ wsX50, w ∈ lw_tbl := inP [] (by decide +kernel)
set_option maxRecDepth 100000 in
theorem in_wsX60 : ∀ w ∈ wsX60, w ∈ lw_tbl := inP [] (by decide +kernel)
set_option maxRecDepth 100000 in
theorem in_wsX70 : ∀ w ∈ wsX70, w ∈ lw_tbl := inP [93, 95, 97, 99, 101, 103, 105, 107, 109] (by decide +kernel)
set_option maxRecDepth 100000 in
theorem in_wsX80 : ∀ w ∈ wsX80, w ∈ lw_tbl := inP [117, 119] (by decide +kernel)
set_option maxRecDepth 100000 in
theorem in_wsX90 : ∀ w ∈ wsX90, w ∈ lw_tbl := inP [] (by decide +kernel)
set_option maxRecDepth 100000 in
theorem in_wsX100 : ∀ w ∈ wsX100, w ∈ lw_tbl := inP [189, 191, 193] (by decide +kernel)
set_option maxRecDepth 100000 in
theorem in_wsX110 : ∀ w ∈ wsX110, w ∈ lw_tbl := inP [202, 204, 206, 208, 210, 212] (by decide +kernel)
set_option maxRecDepth 100000 in
theorem in_wsX120 : ∀ w ∈ wsX120, w ∈ lw_tbl := inP [] (by decide +kernel)
set_option maxRecDepth 100000 in
theorem in_wsJ60 : ∀ w ∈ wsJ60, w ∈ lw_tbl := inP [] (by decide +kernel)
set_option maxRecDepth 100000 in
theorem in_wsJ130 : ∀ w ∈ wsJ130, w ∈ lw_tbl := inP [] (by decide +kernel)
set_option maxRecDepth 100000 in
theorem in_wsJ90 : ∀ w ∈ wsJ90, w ∈ lw_tbl := inP [] (by decide +kernel)
set_option maxRecDepth 100000 in
theorem in_wsJ00 : ∀ w ∈ wsJ00, w ∈ lw_tbl := inP [] (by decide +kernel)
set_option maxRecDepth 100000 in
theorem in_wsJ100 : ∀ w ∈ wsJ100, w ∈ lw_tbl := inP [] (by decide +kernel)
set_option maxRecDepth 100000 in
theorem in_x0 : ∀ w ∈ (vx_atS RX11 121 "java/lang/IndexOutOfBoundsException" ["java/lang/RuntimeException", "java/lang/Exception"]).filter goodWord, w ∈ lw_tbl := inP [25, 241, 250, 254, 257, 259, 242, 243, 45, 46, 244, 249, 255, 275, 231, 276, 233, 277, 235, 245, 247, 237, 271, 272, 274, 237, 406, 407, 408, 265, 265, 266, 267, 268, 268, 269, 270, 271, 405, 396, 398, 253, 399, 400, 401, 402, 240, 239, 403] (by decide +kernel)
set_option maxRecDepth 100000 in
theorem in_x1 : ∀ w ∈ (vx_atS RX11 55 "java/lang/IllegalArgumentException" ["java/lang/RuntimeException", "java/lang/Exception"]).filter goodWord, w ∈ lw_tbl := inP [25, 241, 250, 254, 257, 259, 242, 243, 45, 46, 244, 249, 255, 275, 231, 276, 233, 277, 235, 245, 247, 237, 271, 272, 274, 237, 262, 263, 264, 265, 265, 266, 267, 268, 268, 269, 270, 271, 261, 220, 228, 229, 230, 232, 234, 236, 240, 239, 238] (by decide +kernel)
set_option maxRecDepth 100000 in
theorem in_x2 : ∀ w ∈ (vx_atS RX11 72 "java/lang/IllegalStateException" ["java/lang/RuntimeException", "java/lang/Exception"]).filter goodWord, w ∈ lw_tbl := inP [25, 241, 250, 254, 257, 259, 242, 243, 45, 46, 244, 249, 255, 275, 231, 276, 233, 277, 235, 245, 247, 237, 271, 272, 274, 237, 628, 629, 630, 265, 265, 266, 267, 268, 268, 269, 270, 271, 627, 618, 620, 252, 621, 622, 623, 624, 240, 239, 625] (by decide +kernel)
