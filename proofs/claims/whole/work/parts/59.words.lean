set_option maxRecDepth 20000 in
theorem ins_0 : Cond.instantiable RX0 2 ∈ lw_tbl := List.mem_of_getElem? (i := 74) (by decide +kernel)
set_option maxRecDepth 20000 in
theorem ins_1 : Cond.instantiable RX1 4 ∈ lw_tbl := List.mem_of_getElem? (i := 111) (by decide +kernel)
set_option maxRecDepth 20000 in
theorem ins_2 : Cond.instantiable RX2 2 ∈ lw_tbl := List.mem_of_getElem? (i := 134) (by decide +kernel)
set_option maxRecDepth 20000 in
theorem ins_3 : Cond.instantiable RX3 2 ∈ lw_tbl := List.mem_of_getElem? (i := 60) (by decide +kernel)
set_option maxRecDepth 20000 in
theorem ins_4 : Cond.instantiable RX4 4 ∈ lw_tbl := List.mem_of_getElem? (i := 151) (by decide +kernel)
set_option maxRecDepth 20000 in
theorem ins_5 : Cond.instantiable RX5 5 ∈ lw_tbl := List.mem_of_getElem? (i := 87) (by decide +kernel)
set_option maxRecDepth 20000 in
theorem ins_6 : Cond.instantiable RX6 9 ∈ lw_tbl := List.mem_of_getElem? (i := 52) (by decide +kernel)
set_option maxRecDepth 20000 in
theorem ins_7 : Cond.instantiable RX7 22 ∈ lw_tbl := List.mem_of_getElem? (i := 584) (by decide +kernel)
set_option maxRecDepth 20000 in
theorem arr_I : Cond.arrayClass .int ∈ lw_tbl := List.mem_of_getElem? (i := 72) (by decide +kernel)
set_option maxRecDepth 20000 in
theorem arr_Z : Cond.arrayClass .boolean ∈ lw_tbl := List.mem_of_getElem? (i := 656) (by decide +kernel)
set_option maxRecDepth 20000 in
theorem arr_J : Cond.arrayClass .long ∈ lw_tbl := List.mem_of_getElem? (i := 148) (by decide +kernel)
set_option maxRecDepth 20000 in
theorem arr_O : Cond.arrayOver (.object "BallBoxes$Sheet") ∈ lw_tbl := List.mem_of_getElem? (i := 150) (by decide +kernel)
set_option maxRecDepth 20000 in
theorem nwL_in : ∀ w ∈ nwL, w ∈ lw_tbl := mem_r _ [96, 98, 159, 163, 161, 157, 118, 121, 117, 120, 75, 88, 112, 135, 152, 61, 455, 140, 212, 249] (by decide +kernel)
