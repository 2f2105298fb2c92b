set_option maxRecDepth 100000 in
theorem lp_okL_16 : lp_c293_16.all (lp_okE 293) = true := by decide +kernel
set_option maxRecDepth 100000 in
theorem lp_okL_17 : lp_c293_17.all (lp_okE 293) = true := by decide +kernel
set_option maxRecDepth 100000 in
theorem lp_okL_18 : lp_c293_18.all (lp_okE 293) = true := by decide +kernel
set_option maxRecDepth 100000 in
theorem lp_okL_19 : lp_c293_19.all (lp_okE 293) = true := by decide +kernel
set_option maxRecDepth 100000 in
theorem lp_okL_20 : lp_c293_20.all (lp_okE 293) = true := by decide +kernel
set_option maxRecDepth 100000 in
theorem lp_okL_21 : lp_c293_21.all (lp_okE 293) = true := by decide +kernel
set_option maxRecDepth 100000 in
theorem lp_okL_22 : lp_c293_22.all (lp_okE 293) = true := by decide +kernel
set_option maxRecDepth 100000 in
theorem lp_okL_23 : lp_c293_23.all (lp_okE 293) = true := by decide +kernel
