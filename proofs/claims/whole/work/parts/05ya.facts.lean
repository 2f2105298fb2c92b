set_option maxRecDepth 100000 in
theorem lp_okL_0 : lp_c293_0.all (lp_okE 293) = true := by decide +kernel
set_option maxRecDepth 100000 in
theorem lp_okL_1 : lp_c293_1.all (lp_okE 293) = true := by decide +kernel
set_option maxRecDepth 100000 in
theorem lp_okL_2 : lp_c293_2.all (lp_okE 293) = true := by decide +kernel
set_option maxRecDepth 100000 in
theorem lp_okL_3 : lp_c293_3.all (lp_okE 293) = true := by decide +kernel
set_option maxRecDepth 100000 in
theorem lp_okL_4 : lp_c293_4.all (lp_okE 293) = true := by decide +kernel
set_option maxRecDepth 100000 in
theorem lp_okL_5 : lp_c293_5.all (lp_okE 293) = true := by decide +kernel
set_option maxRecDepth 100000 in
theorem lp_okL_6 : lp_c293_6.all (lp_okE 293) = true := by decide +kernel
set_option maxRecDepth 100000 in
theorem lp_okL_7 : lp_c293_7.all (lp_okE 293) = true := by decide +kernel
