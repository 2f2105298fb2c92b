set_option maxRecDepth 100000 in
theorem lp_okL_40 : lp_c293_40.all (lp_okE 293) = true := by decide +kernel
set_option maxRecDepth 100000 in
theorem lp_okL_41 : lp_c293_41.all (lp_okE 293) = true := by decide +kernel
set_option maxRecDepth 100000 in
theorem lp_okL_42 : lp_c293_42.all (lp_okE 293) = true := by decide +kernel
