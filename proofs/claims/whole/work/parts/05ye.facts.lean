set_option maxRecDepth 100000 in
theorem lp_okL_32 : lp_c293_32.all (lp_okE 293) = true := by decide +kernel
set_option maxRecDepth 100000 in
theorem lp_okL_33 : lp_c293_33.all (lp_okE 293) = true := by decide +kernel
set_option maxRecDepth 100000 in
theorem lp_okL_34 : lp_c293_34.all (lp_okE 293) = true := by decide +kernel
set_option maxRecDepth 100000 in
theorem lp_okL_35 : lp_c293_35.all (lp_okE 293) = true := by decide +kernel
set_option maxRecDepth 100000 in
theorem lp_okL_36 : lp_c293_36.all (lp_okE 293) = true := by decide +kernel
set_option maxRecDepth 100000 in
theorem lp_okL_37 : lp_c293_37.all (lp_okE 293) = true := by decide +kernel
set_option maxRecDepth 100000 in
theorem lp_okL_38 : lp_c293_38.all (lp_okE 293) = true := by decide +kernel
set_option maxRecDepth 100000 in
theorem lp_okL_39 : lp_c293_39.all (lp_okE 293) = true := by decide +kernel
