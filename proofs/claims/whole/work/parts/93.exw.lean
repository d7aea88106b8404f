/-! the words that the throwing of new exceptions needs, among the tables' -/
def nmX : List String := ["java/lang/RuntimeException", "java/lang/Exception"]
set_option maxRecDepth 100000 in
theorem at_un : ∀ w ∈ vx_atS R_Kin 32 "java/lang/UnsupportedOperationException" nmX, w ∈ lw_tbl := by decide +kernel
theorem at_un_ok : (vx_atS R_Kin 32 "java/lang/UnsupportedOperationException" nmX).all vx_ot = true := by decide +kernel
set_option maxRecDepth 100000 in
theorem at_is : ∀ w ∈ vx_atS R_Kin 39 "java/lang/IllegalStateException" nmX, w ∈ lw_tbl := by decide +kernel
theorem at_is_ok : (vx_atS R_Kin 39 "java/lang/IllegalStateException" nmX).all vx_ot = true := by decide +kernel
set_option maxRecDepth 100000 in
theorem at_ia : ∀ w ∈ vx_atS R_Kin 44 "java/lang/IllegalArgumentException" nmX, w ∈ lw_tbl := by decide +kernel
theorem at_ia_ok : (vx_atS R_Kin 44 "java/lang/IllegalArgumentException" nmX).all vx_ot = true := by decide +kernel
