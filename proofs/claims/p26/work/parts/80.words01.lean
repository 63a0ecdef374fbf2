set_option maxRecDepth 100000 in
theorem in_wsX90 : ∀ w ∈ wsX90, w ∈ lw_tbl := inP [] (by decide +kernel)
set_option maxRecDepth 100000 in
theorem in_wsX100 : ∀ w ∈ wsX100, w ∈ lw_tbl := inP [189, 191, 193] (by decide +kernel)
set_option maxRecDepth 100000 in
theorem in_wsX110 : ∀ w ∈ wsX110, w ∈ lw_tbl := inP [202, 204, 206, 208, 210, 212] (by decide +kernel)
set_option maxRecDepth 100000 in
theorem in_wsX120 : ∀ w ∈ wsX120, w ∈ lw_tbl := inP [] (by decide +kernel)
set_option maxRecDepth 100000 in
theorem in_wsJ60 : ∀ w ∈ wsJ60, w ∈ lw_tbl := inP [] (by decide +kernel)
set_option maxRecDepth 100000 in
theorem in_wsJ130 : ∀ w ∈ wsJ130, w ∈ lw_tbl := inP [] (by decide +kernel)
set_option maxRecDepth 100000 in
theorem in_wsJ90 : ∀ w ∈ wsJ90, w ∈ lw_tbl := inP [] (by decide +kernel)
set_option maxRecDepth 100000 in
theorem in_wsJ00 : ∀ w ∈ wsJ00, w ∈ lw_tbl := inP [] (by decide +kernel)
set_option maxRecDepth 100000 in
theorem in_wsJ100 : ∀ w ∈ wsJ100, w ∈ lw_tbl := inP [] (by decide +kernel)
set_option maxRecDepth 100000 in
theorem in_x0 : ∀ w ∈ (vx_atS RX11 121 "java/lang/IndexOutOfBoundsException" ["java/lang/RuntimeException", "java/lang/Exception"]).filter goodWord, w ∈ lw_tbl := inP [25, 241, 250, 254, 257, 259, 242, 243, 45, 46, 244, 249, 255, 275, 231, 276, 233, 277, 235, 245, 247, 237, 271, 272, 274, 237, 406, 407, 408, 265, 265, 266, 267, 268, 268, 269, 270, 271, 405, 396, 398, 253, 399, 400, 401, 402, 240, 239, 403] (by decide +kernel)
