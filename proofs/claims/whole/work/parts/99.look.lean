theorem zz_look : True := trivial
theorem zz_a : ((vx_atS RX1 30 "java/lang/IllegalArgumentException" ["java/lang/RuntimeException", "java/lang/Exception"]).filter (fun w => !goodWord w)).length = 100 := by decide +kernel
theorem zz_b : ∀ w ∈ (vx_atS RX1 30 "java/lang/IllegalArgumentException" ["java/lang/RuntimeException", "java/lang/Exception"]), goodWord w = true := by decide +kernel
theorem zz_c : ∀ w ∈ (vx_atS RX1 30 "java/lang/IllegalArgumentException" ["java/lang/RuntimeException", "java/lang/Exception"]), w ∈ lw_tbl := by decide +kernel
