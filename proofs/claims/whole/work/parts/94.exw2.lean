set_option maxRecDepth 100000 in
theorem at_bis : ∀ w ∈ vx_atS R_Brt 373 "java/lang/IllegalStateException" nmX, w ∈ lw_tbl := by decide +kernel
theorem at_bis_ok : (vx_atS R_Brt 373 "java/lang/IllegalStateException" nmX).all vx_ot = true := by decide +kernel
set_option maxRecDepth 100000 in
theorem at_bia : ∀ w ∈ vx_atS R_Brt 366 "java/lang/IllegalArgumentException" nmX, w ∈ lw_tbl := by decide +kernel
theorem at_bia_ok : (vx_atS R_Brt 366 "java/lang/IllegalArgumentException" nmX).all vx_ot = true := by decide +kernel
